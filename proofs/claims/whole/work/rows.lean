section
-- ===== PART A: goes FIRST, ahead of the names: the tables' words, and 'selects' of the private methods out of them =====
/-- a private method of a class that the tables say can be made, by its rows of tables_1 -/
def lw_okq (q : MethodName × Nat) : Prop := (q.1.cls ≠ "java/lang/invoke/MethodHandle" ∧ q.1.cls ≠ "java/lang/invoke/VarHandle") ∧ Cond.instantiable q.1.cls q.2 ∈ tables_1 ∧ Cond.privateMethod q.1 ∈ tables_1 ∧ Cond.instanceMethod q.1 ∈ tables_1
theorem lw_p0 : lw_okq (⟨"DredgeWays", "startAnew", "(II)V"⟩, 12) := ⟨⟨by decide +kernel, by decide +kernel⟩, List.mem_of_getElem? (i := 14) (by decide +kernel), List.mem_of_getElem? (i := 215) (by decide +kernel), List.mem_of_getElem? (i := 216) (by decide +kernel)⟩
theorem lw_p1 : lw_okq (⟨"DredgeWays", "startRules", "()V"⟩, 12) := ⟨⟨by decide +kernel, by decide +kernel⟩, List.mem_of_getElem? (i := 14) (by decide +kernel), List.mem_of_getElem? (i := 251) (by decide +kernel), List.mem_of_getElem? (i := 252) (by decide +kernel)⟩
theorem lw_p2 : lw_okq (⟨"DredgeWays$Pass", "planRun", "(LDredgeWays$Ground;IIII)Z"⟩, 4) := ⟨⟨by decide +kernel, by decide +kernel⟩, List.mem_of_getElem? (i := 133) (by decide +kernel), List.mem_of_getElem? (i := 397) (by decide +kernel), List.mem_of_getElem? (i := 398) (by decide +kernel)⟩
theorem lw_p3 : lw_okq (⟨"DredgeWays$Pass", "planCell", "(LDredgeWays$Ground;II)V"⟩, 4) := ⟨⟨by decide +kernel, by decide +kernel⟩, List.mem_of_getElem? (i := 133) (by decide +kernel), List.mem_of_getElem? (i := 404) (by decide +kernel), List.mem_of_getElem? (i := 405) (by decide +kernel)⟩
theorem lw_p4 : lw_okq (⟨"DredgeWays", "homeHour", "(II)I"⟩, 12) := ⟨⟨by decide +kernel, by decide +kernel⟩, List.mem_of_getElem? (i := 14) (by decide +kernel), List.mem_of_getElem? (i := 426) (by decide +kernel), List.mem_of_getElem? (i := 427) (by decide +kernel)⟩
theorem lw_p5 : lw_okq (⟨"DredgeWays", "carryOut", "(II)V"⟩, 12) := ⟨⟨by decide +kernel, by decide +kernel⟩, List.mem_of_getElem? (i := 14) (by decide +kernel), List.mem_of_getElem? (i := 435) (by decide +kernel), List.mem_of_getElem? (i := 436) (by decide +kernel)⟩
theorem lw_p6 : lw_okq (⟨"DredgeWays", "passHours", "(I)V"⟩, 12) := ⟨⟨by decide +kernel, by decide +kernel⟩, List.mem_of_getElem? (i := 14) (by decide +kernel), List.mem_of_getElem? (i := 450) (by decide +kernel), List.mem_of_getElem? (i := 451) (by decide +kernel)⟩
theorem lw_p7 : lw_okq (⟨"DredgeWays", "endHour", "()V"⟩, 12) := ⟨⟨by decide +kernel, by decide +kernel⟩, List.mem_of_getElem? (i := 14) (by decide +kernel), List.mem_of_getElem? (i := 454) (by decide +kernel), List.mem_of_getElem? (i := 455) (by decide +kernel)⟩
theorem lw_p8 : lw_okq (⟨"DredgeWays$Clouds", "settle", "(LDredgeWays$Ground;II)V"⟩, 6) := ⟨⟨by decide +kernel, by decide +kernel⟩, List.mem_of_getElem? (i := 74) (by decide +kernel), List.mem_of_getElem? (i := 464) (by decide +kernel), List.mem_of_getElem? (i := 465) (by decide +kernel)⟩
theorem lw_p9 : lw_okq (⟨"DredgeWays$Clouds", "driftOn", "(LDredgeWays$Ground;III)V"⟩, 6) := ⟨⟨by decide +kernel, by decide +kernel⟩, List.mem_of_getElem? (i := 74) (by decide +kernel), List.mem_of_getElem? (i := 474) (by decide +kernel), List.mem_of_getElem? (i := 475) (by decide +kernel)⟩
theorem lw_p10 : lw_okq (⟨"DredgeWays$Ground", "gathersSilt", "(II)Z"⟩, 6) := ⟨⟨by decide +kernel, by decide +kernel⟩, List.mem_of_getElem? (i := 36) (by decide +kernel), List.mem_of_getElem? (i := 491) (by decide +kernel), List.mem_of_getElem? (i := 492) (by decide +kernel)⟩
theorem lw_p11 : lw_okq (⟨"DredgeWays$Sheets", "write", "(III)V"⟩, 2) := ⟨⟨by decide +kernel, by decide +kernel⟩, List.mem_of_getElem? (i := 200) (by decide +kernel), List.mem_of_getElem? (i := 518) (by decide +kernel), List.mem_of_getElem? (i := 519) (by decide +kernel)⟩
theorem lw_p12 : lw_okq (⟨"DredgeWays$Sheets", "knows", "(II)Z"⟩, 2) := ⟨⟨by decide +kernel, by decide +kernel⟩, List.mem_of_getElem? (i := 200) (by decide +kernel), List.mem_of_getElem? (i := 534) (by decide +kernel), List.mem_of_getElem? (i := 535) (by decide +kernel)⟩
theorem lw_p13 : lw_okq (⟨"DredgeWays$Sheets", "bothKnow", "(III)Z"⟩, 2) := ⟨⟨by decide +kernel, by decide +kernel⟩, List.mem_of_getElem? (i := 200) (by decide +kernel), List.mem_of_getElem? (i := 560) (by decide +kernel), List.mem_of_getElem? (i := 561) (by decide +kernel)⟩
theorem lw_p14 : lw_okq (⟨"DredgeWaysModel", "anew", "()V"⟩, 27) := ⟨⟨by decide +kernel, by decide +kernel⟩, List.mem_of_getElem? (i := 604) (by decide +kernel), List.mem_of_getElem? (i := 610) (by decide +kernel), List.mem_of_getElem? (i := 611) (by decide +kernel)⟩
theorem lw_p15 : lw_okq (⟨"DredgeWaysModel", "isCell", "(I)Z"⟩, 27) := ⟨⟨by decide +kernel, by decide +kernel⟩, List.mem_of_getElem? (i := 604) (by decide +kernel), List.mem_of_getElem? (i := 708) (by decide +kernel), List.mem_of_getElem? (i := 709) (by decide +kernel)⟩
def lw_privs_1 : List (MethodName × Nat) := [(⟨"DredgeWays", "startAnew", "(II)V"⟩, 12), (⟨"DredgeWays", "startRules", "()V"⟩, 12), (⟨"DredgeWays$Pass", "planRun", "(LDredgeWays$Ground;IIII)Z"⟩, 4), (⟨"DredgeWays$Pass", "planCell", "(LDredgeWays$Ground;II)V"⟩, 4), (⟨"DredgeWays", "homeHour", "(II)I"⟩, 12), (⟨"DredgeWays", "carryOut", "(II)V"⟩, 12), (⟨"DredgeWays", "passHours", "(I)V"⟩, 12), (⟨"DredgeWays", "endHour", "()V"⟩, 12), (⟨"DredgeWays$Clouds", "settle", "(LDredgeWays$Ground;II)V"⟩, 6), (⟨"DredgeWays$Clouds", "driftOn", "(LDredgeWays$Ground;III)V"⟩, 6), (⟨"DredgeWays$Ground", "gathersSilt", "(II)Z"⟩, 6), (⟨"DredgeWays$Sheets", "write", "(III)V"⟩, 2), (⟨"DredgeWays$Sheets", "knows", "(II)Z"⟩, 2), (⟨"DredgeWays$Sheets", "bothKnow", "(III)Z"⟩, 2), (⟨"DredgeWaysModel", "anew", "()V"⟩, 27), (⟨"DredgeWaysModel", "isCell", "(I)Z"⟩, 27)]
theorem lw_r1 : ∀ q ∈ lw_privs_1, lw_okq q := List.forall_mem_cons.mpr ⟨lw_p0, List.forall_mem_cons.mpr ⟨lw_p1, List.forall_mem_cons.mpr ⟨lw_p2, List.forall_mem_cons.mpr ⟨lw_p3, List.forall_mem_cons.mpr ⟨lw_p4, List.forall_mem_cons.mpr ⟨lw_p5, List.forall_mem_cons.mpr ⟨lw_p6, List.forall_mem_cons.mpr ⟨lw_p7, List.forall_mem_cons.mpr ⟨lw_p8, List.forall_mem_cons.mpr ⟨lw_p9, List.forall_mem_cons.mpr ⟨lw_p10, List.forall_mem_cons.mpr ⟨lw_p11, List.forall_mem_cons.mpr ⟨lw_p12, List.forall_mem_cons.mpr ⟨lw_p13, List.forall_mem_cons.mpr ⟨lw_p14, List.forall_mem_cons.mpr ⟨lw_p15, fun _ h => absurd h List.not_mem_nil⟩⟩⟩⟩⟩⟩⟩⟩⟩⟩⟩⟩⟩⟩⟩⟩
theorem lw_p16 : lw_okq (⟨"DredgeWaysModel", "passes", "()V"⟩, 27) := ⟨⟨by decide +kernel, by decide +kernel⟩, List.mem_of_getElem? (i := 604) (by decide +kernel), List.mem_of_getElem? (i := 744) (by decide +kernel), List.mem_of_getElem? (i := 745) (by decide +kernel)⟩
theorem lw_p17 : lw_okq (⟨"DredgeWaysModel", "drifts", "()V"⟩, 27) := ⟨⟨by decide +kernel, by decide +kernel⟩, List.mem_of_getElem? (i := 604) (by decide +kernel), List.mem_of_getElem? (i := 748) (by decide +kernel), List.mem_of_getElem? (i := 749) (by decide +kernel)⟩
theorem lw_p18 : lw_okq (⟨"DredgeWaysModel", "silts", "()V"⟩, 27) := ⟨⟨by decide +kernel, by decide +kernel⟩, List.mem_of_getElem? (i := 604) (by decide +kernel), List.mem_of_getElem? (i := 752) (by decide +kernel), List.mem_of_getElem? (i := 753) (by decide +kernel)⟩
theorem lw_p19 : lw_okq (⟨"DredgeWaysModel", "mean", "(I)I"⟩, 27) := ⟨⟨by decide +kernel, by decide +kernel⟩, List.mem_of_getElem? (i := 604) (by decide +kernel), List.mem_of_getElem? (i := 756) (by decide +kernel), List.mem_of_getElem? (i := 757) (by decide +kernel)⟩
theorem lw_p20 : lw_okq (⟨"DredgeWaysModel", "digs", "(IIII)I"⟩, 27) := ⟨⟨by decide +kernel, by decide +kernel⟩, List.mem_of_getElem? (i := 604) (by decide +kernel), List.mem_of_getElem? (i := 764) (by decide +kernel), List.mem_of_getElem? (i := 765) (by decide +kernel)⟩
theorem lw_p21 : lw_okq (⟨"DredgeWaysModel", "waits", "(II)I"⟩, 27) := ⟨⟨by decide +kernel, by decide +kernel⟩, List.mem_of_getElem? (i := 604) (by decide +kernel), List.mem_of_getElem? (i := 768) (by decide +kernel), List.mem_of_getElem? (i := 769) (by decide +kernel)⟩
theorem lw_p22 : lw_okq (⟨"DredgeWaysModel", "undone", "()I"⟩, 27) := ⟨⟨by decide +kernel, by decide +kernel⟩, List.mem_of_getElem? (i := 604) (by decide +kernel), List.mem_of_getElem? (i := 813) (by decide +kernel), List.mem_of_getElem? (i := 814) (by decide +kernel)⟩
def lw_privs_2 : List (MethodName × Nat) := [(⟨"DredgeWaysModel", "passes", "()V"⟩, 27), (⟨"DredgeWaysModel", "drifts", "()V"⟩, 27), (⟨"DredgeWaysModel", "silts", "()V"⟩, 27), (⟨"DredgeWaysModel", "mean", "(I)I"⟩, 27), (⟨"DredgeWaysModel", "digs", "(IIII)I"⟩, 27), (⟨"DredgeWaysModel", "waits", "(II)I"⟩, 27), (⟨"DredgeWaysModel", "undone", "()I"⟩, 27)]
theorem lw_r2 : ∀ q ∈ lw_privs_2, lw_okq q := List.forall_mem_cons.mpr ⟨lw_p16, List.forall_mem_cons.mpr ⟨lw_p17, List.forall_mem_cons.mpr ⟨lw_p18, List.forall_mem_cons.mpr ⟨lw_p19, List.forall_mem_cons.mpr ⟨lw_p20, List.forall_mem_cons.mpr ⟨lw_p21, List.forall_mem_cons.mpr ⟨lw_p22, fun _ h => absurd h List.not_mem_nil⟩⟩⟩⟩⟩⟩⟩
def lw_privs : List (MethodName × Nat) := lw_privs_1 ++ (lw_privs_2)
def lw_tbl : List Cond := k2_sels lw_privs ++ tables_1
theorem lw_privs_ok : ∀ q ∈ lw_privs, lw_okq q := by
  show ∀ q ∈ lw_privs_1 ++ (lw_privs_2), lw_okq q
  exact List.forall_mem_append.mpr ⟨lw_r1, lw_r2⟩
-- ===== end of PART A; then your names; then what follows =====
def RX0 : String := "DredgeWays$Clouds"
def TX0 : u_T := fun k => match k with
  | 0 => ("DredgeWays$Clouds", "afloat", "LDredgeWays$Numbers;", true)
  | 1 => ("DredgeWays$Clouds", "loose", "LDredgeWays$Numbers;", true)
  | 2 => ("DredgeWays$Clouds", "next", "LDredgeWays$Numbers;", true)
  | 3 => ("DredgeWays$Clouds", "came", "I", false)
  | 4 => ("DredgeWays$Clouds", "gone", "I", false)
  | _ => ("DredgeWays$Clouds", "settled", "I", false)
def tyX0 : Nat → FieldType := fun k => match k with
  | 0 => .object "DredgeWays$Numbers"
  | 1 => .object "DredgeWays$Numbers"
  | 2 => .object "DredgeWays$Numbers"
  | 3 => .int
  | 4 => .int
  | _ => .int
abbrev wsX00 : List Cond := u_ws RX0 TX0 6
theorem nmX0 : ∀ a, a < 6 → ∀ b, b < 6 → a ≠ b → (TX0 a).2.1 ≠ (TX0 b).2.1 := by decide +kernel
theorem tyX0_ok : ∀ k, k < 6 → parseFieldDescriptor (TX0 k).2.2.1 = some (tyX0 k) := by decide +kernel
abbrev cX0_init : ByteArray := prog_2_method_1_code
def yX0_init : MethodName := ⟨RX0, "<init>", "()V"⟩
abbrev cX0_start : ByteArray := prog_2_method_2_code
def yX0_start : MethodName := ⟨RX0, "start", "()V"⟩
abbrev cX0_come : ByteArray := prog_2_method_3_code
def yX0_come : MethodName := ⟨RX0, "come", "(II)V"⟩
abbrev cX0_drift : ByteArray := prog_2_method_4_code
def yX0_drift : MethodName := ⟨RX0, "drift", "(LDredgeWays$Ground;I)V"⟩
abbrev cX0_driftOn : ByteArray := prog_2_method_5_code
def yX0_driftOn : MethodName := ⟨RX0, "driftOn", "(LDredgeWays$Ground;III)V"⟩
abbrev cX0_settle : ByteArray := prog_2_method_6_code
def yX0_settle : MethodName := ⟨RX0, "settle", "(LDredgeWays$Ground;II)V"⟩
def RX1 : String := "DredgeWays$Ground"
def TX1 : u_T := fun k => match k with
  | 0 => ("DredgeWays$Ground", "depth", "LDredgeWays$Numbers;", true)
  | 1 => ("DredgeWays$Ground", "design", "LDredgeWays$Numbers;", true)
  | 2 => ("DredgeWays$Ground", "silting", "LDredgeWays$Numbers;", true)
  | 3 => ("DredgeWays$Ground", "columns", "I", false)
  | 4 => ("DredgeWays$Ground", "rows", "I", false)
  | _ => ("DredgeWays$Ground", "silt", "I", false)
def tyX1 : Nat → FieldType := fun k => match k with
  | 0 => .object "DredgeWays$Numbers"
  | 1 => .object "DredgeWays$Numbers"
  | 2 => .object "DredgeWays$Numbers"
  | 3 => .int
  | 4 => .int
  | _ => .int
abbrev wsX10 : List Cond := u_ws RX1 TX1 6
theorem nmX1 : ∀ a, a < 6 → ∀ b, b < 6 → a ≠ b → (TX1 a).2.1 ≠ (TX1 b).2.1 := by decide +kernel
theorem tyX1_ok : ∀ k, k < 6 → parseFieldDescriptor (TX1 k).2.2.1 = some (tyX1 k) := by decide +kernel
abbrev cX1_init : ByteArray := prog_3_method_1_code
def yX1_init : MethodName := ⟨RX1, "<init>", "()V"⟩
abbrev cX1_start : ByteArray := prog_3_method_2_code
def yX1_start : MethodName := ⟨RX1, "start", "(II)V"⟩
abbrev cX1_size : ByteArray := prog_3_method_3_code
def yX1_size : MethodName := ⟨RX1, "size", "()I"⟩
abbrev cX1_has : ByteArray := prog_3_method_4_code
def yX1_has : MethodName := ⟨RX1, "has", "(I)Z"⟩
abbrev cX1_hasRow : ByteArray := prog_3_method_5_code
def yX1_hasRow : MethodName := ⟨RX1, "hasRow", "(I)Z"⟩
abbrev cX1_hasColumn : ByteArray := prog_3_method_6_code
def yX1_hasColumn : MethodName := ⟨RX1, "hasColumn", "(I)Z"⟩
abbrev cX1_number : ByteArray := prog_3_method_7_code
def yX1_number : MethodName := ⟨RX1, "number", "(II)I"⟩
abbrev cX1_room : ByteArray := prog_3_method_8_code
def yX1_room : MethodName := ⟨RX1, "room", "(II)I"⟩
abbrev cX1_unfinished : ByteArray := prog_3_method_9_code
def yX1_unfinished : MethodName := ⟨RX1, "unfinished", "()I"⟩
abbrev cX1_raise : ByteArray := prog_3_method_10_code
def yX1_raise : MethodName := ⟨RX1, "raise", "(II)V"⟩
abbrev cX1_siltUp : ByteArray := prog_3_method_11_code
def yX1_siltUp : MethodName := ⟨RX1, "siltUp", "()V"⟩
abbrev cX1_gathersSilt : ByteArray := prog_3_method_12_code
def yX1_gathersSilt : MethodName := ⟨RX1, "gathersSilt", "(II)Z"⟩
def RX2 : String := "DredgeWays$Numbers"
def TX2 : u_T := fun k => match k with
  | _ => ("DredgeWays$Numbers", "items", "[I", true)
def tyX2 : Nat → FieldType := fun k => match k with
  | _ => .array .int
abbrev wsX20 : List Cond := u_ws RX2 TX2 1
theorem nmX2 : ∀ a, a < 1 → ∀ b, b < 1 → a ≠ b → (TX2 a).2.1 ≠ (TX2 b).2.1 := by decide +kernel
theorem tyX2_ok : ∀ k, k < 1 → parseFieldDescriptor (TX2 k).2.2.1 = some (tyX2 k) := by decide +kernel
abbrev cX2_init : ByteArray := prog_4_method_1_code
def yX2_init : MethodName := ⟨RX2, "<init>", "(I)V"⟩
abbrev cX2_get : ByteArray := prog_4_method_2_code
def yX2_get : MethodName := ⟨RX2, "get", "(I)I"⟩
abbrev cX2_put : ByteArray := prog_4_method_3_code
def yX2_put : MethodName := ⟨RX2, "put", "(II)I"⟩
abbrev cX2_add : ByteArray := prog_4_method_4_code
def yX2_add : MethodName := ⟨RX2, "add", "(II)V"⟩
abbrev cX2_fill : ByteArray := prog_4_method_5_code
def yX2_fill : MethodName := ⟨RX2, "fill", "(I)V"⟩
def RX3 : String := "DredgeWays$Pass"
def TX3 : u_T := fun k => match k with
  | 0 => ("DredgeWays$Pass", "planned", "LDredgeWays$Numbers;", true)
  | 1 => ("DredgeWays$Pass", "row", "I", false)
  | 2 => ("DredgeWays$Pass", "load", "I", false)
  | _ => ("DredgeWays$Pass", "last", "I", false)
def tyX3 : Nat → FieldType := fun k => match k with
  | 0 => .object "DredgeWays$Numbers"
  | 1 => .int
  | 2 => .int
  | _ => .int
abbrev wsX30 : List Cond := u_ws RX3 TX3 4
theorem nmX3 : ∀ a, a < 4 → ∀ b, b < 4 → a ≠ b → (TX3 a).2.1 ≠ (TX3 b).2.1 := by decide +kernel
theorem tyX3_ok : ∀ k, k < 4 → parseFieldDescriptor (TX3 k).2.2.1 = some (tyX3 k) := by decide +kernel
abbrev cX3_init : ByteArray := prog_5_method_1_code
def yX3_init : MethodName := ⟨RX3, "<init>", "()V"⟩
abbrev cX3_plan : ByteArray := prog_5_method_2_code
def yX3_plan : MethodName := ⟨RX3, "plan", "(LDredgeWays$Ground;IIIII)V"⟩
abbrev cX3_planRun : ByteArray := prog_5_method_3_code
def yX3_planRun : MethodName := ⟨RX3, "planRun", "(LDredgeWays$Ground;IIII)Z"⟩
abbrev cX3_planCell : ByteArray := prog_5_method_4_code
def yX3_planCell : MethodName := ⟨RX3, "planCell", "(LDredgeWays$Ground;II)V"⟩
abbrev cX3_digPlanned : ByteArray := prog_5_method_5_code
def yX3_digPlanned : MethodName := ⟨RX3, "digPlanned", "(LDredgeWays$Ground;)V"⟩
def RX4 : String := "DredgeWays$Posts"
def TX4 : u_T := fun k => match k with
  | 0 => ("DredgeWays$Posts", "places", "LDredgeWays$Numbers;", true)
  | 1 => ("DredgeWays$Posts", "limits", "LDredgeWays$Numbers;", true)
  | 2 => ("DredgeWays$Posts", "brokenHours", "LDredgeWays$Numbers;", true)
  | _ => ("DredgeWays$Posts", "size", "I", false)
def tyX4 : Nat → FieldType := fun k => match k with
  | 0 => .object "DredgeWays$Numbers"
  | 1 => .object "DredgeWays$Numbers"
  | 2 => .object "DredgeWays$Numbers"
  | _ => .int
abbrev wsX40 : List Cond := u_ws RX4 TX4 4
theorem nmX4 : ∀ a, a < 4 → ∀ b, b < 4 → a ≠ b → (TX4 a).2.1 ≠ (TX4 b).2.1 := by decide +kernel
theorem tyX4_ok : ∀ k, k < 4 → parseFieldDescriptor (TX4 k).2.2.1 = some (tyX4 k) := by decide +kernel
abbrev cX4_init : ByteArray := prog_6_method_1_code
def yX4_init : MethodName := ⟨RX4, "<init>", "()V"⟩
abbrev cX4_has : ByteArray := prog_6_method_2_code
def yX4_has : MethodName := ⟨RX4, "has", "(I)Z"⟩
abbrev cX4_isFull : ByteArray := prog_6_method_3_code
def yX4_isFull : MethodName := ⟨RX4, "isFull", "()Z"⟩
abbrev cX4_put : ByteArray := prog_6_method_4_code
def yX4_put : MethodName := ⟨RX4, "put", "(II)I"⟩
abbrev cX4_watch : ByteArray := prog_6_method_5_code
def yX4_watch : MethodName := ⟨RX4, "watch", "(LDredgeWays$Clouds;)V"⟩
def RX5 : String := "DredgeWays$Sheets"
def TX5 : u_T := fun k => match k with
  | 0 => ("DredgeWays$Sheets", "depths", "LDredgeWays$Numbers;", true)
  | _ => ("DredgeWays$Sheets", "taken", "LDredgeWays$Numbers;", true)
def tyX5 : Nat → FieldType := fun k => match k with
  | 0 => .object "DredgeWays$Numbers"
  | _ => .object "DredgeWays$Numbers"
abbrev wsX50 : List Cond := u_ws RX5 TX5 2
theorem nmX5 : ∀ a, a < 2 → ∀ b, b < 2 → a ≠ b → (TX5 a).2.1 ≠ (TX5 b).2.1 := by decide +kernel
theorem tyX5_ok : ∀ k, k < 2 → parseFieldDescriptor (TX5 k).2.2.1 = some (tyX5 k) := by decide +kernel
abbrev cX5_init : ByteArray := prog_7_method_1_code
def yX5_init : MethodName := ⟨RX5, "<init>", "()V"⟩
abbrev cX5_start : ByteArray := prog_7_method_2_code
def yX5_start : MethodName := ⟨RX5, "start", "()V"⟩
abbrev cX5_has : ByteArray := prog_7_method_3_code
def yX5_has : MethodName := ⟨RX5, "has", "(I)Z"⟩
abbrev cX5_isMissing : ByteArray := prog_7_method_4_code
def yX5_isMissing : MethodName := ⟨RX5, "isMissing", "(I)Z"⟩
abbrev cX5_read : ByteArray := prog_7_method_5_code
def yX5_read : MethodName := ⟨RX5, "read", "(II)I"⟩
abbrev cX5_write : ByteArray := prog_7_method_6_code
def yX5_write : MethodName := ⟨RX5, "write", "(III)V"⟩
abbrev cX5_knows : ByteArray := prog_7_method_7_code
def yX5_knows : MethodName := ⟨RX5, "knows", "(II)Z"⟩
abbrev cX5_bothKnow : ByteArray := prog_7_method_8_code
def yX5_bothKnow : MethodName := ⟨RX5, "bothKnow", "(III)Z"⟩
abbrev cX5_take : ByteArray := prog_7_method_9_code
def yX5_take : MethodName := ⟨RX5, "take", "(ILDredgeWays$Ground;)V"⟩
abbrev cX5_makeGap : ByteArray := prog_7_method_10_code
def yX5_makeGap : MethodName := ⟨RX5, "makeGap", "(II)Z"⟩
abbrev cX5_fillGaps : ByteArray := prog_7_method_11_code
def yX5_fillGaps : MethodName := ⟨RX5, "fillGaps", "(III)I"⟩
abbrev cX5_volume : ByteArray := prog_7_method_12_code
def yX5_volume : MethodName := ⟨RX5, "volume", "(III)I"⟩
abbrev cX5_pay : ByteArray := prog_7_method_13_code
def yX5_pay : MethodName := ⟨RX5, "pay", "(IILDredgeWays$Ground;I)I"⟩
abbrev cX5_unknown : ByteArray := prog_7_method_14_code
def yX5_unknown : MethodName := ⟨RX5, "unknown", "(IILDredgeWays$Ground;)I"⟩
def RX6 : String := "DredgeWays$Ship"
def TX6 : u_T := fun k => match k with
  | _ => ("DredgeWays$Ship", "table", "LDredgeWays$Numbers;", true)
def tyX6 : Nat → FieldType := fun k => match k with
  | _ => .object "DredgeWays$Numbers"
abbrev wsX60 : List Cond := u_ws RX6 TX6 1
theorem nmX6 : ∀ a, a < 1 → ∀ b, b < 1 → a ≠ b → (TX6 a).2.1 ≠ (TX6 b).2.1 := by decide +kernel
theorem tyX6_ok : ∀ k, k < 1 → parseFieldDescriptor (TX6 k).2.2.1 = some (tyX6 k) := by decide +kernel
abbrev cX6_init : ByteArray := prog_8_method_1_code
def yX6_init : MethodName := ⟨RX6, "<init>", "()V"⟩
abbrev cX6_start : ByteArray := prog_8_method_2_code
def yX6_start : MethodName := ⟨RX6, "start", "()V"⟩
abbrev cX6_setTable : ByteArray := prog_8_method_3_code
def yX6_setTable : MethodName := ⟨RX6, "setTable", "(II)I"⟩
abbrev cX6_bestMinutes : ByteArray := prog_8_method_4_code
def yX6_bestMinutes : MethodName := ⟨RX6, "bestMinutes", "(I)I"⟩
def RX7 : String := "DredgeWays$Spots"
def TX7 : u_T := fun k => match k with
  | 0 => ("DredgeWays$Spots", "held", "LDredgeWays$Numbers;", true)
  | 1 => ("DredgeWays$Spots", "most", "LDredgeWays$Numbers;", true)
  | _ => ("DredgeWays$Spots", "away", "LDredgeWays$Numbers;", true)
def tyX7 : Nat → FieldType := fun k => match k with
  | 0 => .object "DredgeWays$Numbers"
  | 1 => .object "DredgeWays$Numbers"
  | _ => .object "DredgeWays$Numbers"
abbrev wsX70 : List Cond := u_ws RX7 TX7 3
theorem nmX7 : ∀ a, a < 3 → ∀ b, b < 3 → a ≠ b → (TX7 a).2.1 ≠ (TX7 b).2.1 := by decide +kernel
theorem tyX7_ok : ∀ k, k < 3 → parseFieldDescriptor (TX7 k).2.2.1 = some (tyX7 k) := by decide +kernel
abbrev cX7_init : ByteArray := prog_9_method_1_code
def yX7_init : MethodName := ⟨RX7, "<init>", "()V"⟩
abbrev cX7_start : ByteArray := prog_9_method_2_code
def yX7_start : MethodName := ⟨RX7, "start", "()V"⟩
abbrev cX7_has : ByteArray := prog_9_method_3_code
def yX7_has : MethodName := ⟨RX7, "has", "(I)Z"⟩
abbrev cX7_hasRoom : ByteArray := prog_9_method_4_code
def yX7_hasRoom : MethodName := ⟨RX7, "hasRoom", "(II)Z"⟩
def RX8 : String := "DredgeWays$Tides"
def TX8 : u_T := fun k => match k with
  | _ => ("DredgeWays$Tides", "heights", "LDredgeWays$Numbers;", true)
def tyX8 : Nat → FieldType := fun k => match k with
  | _ => .object "DredgeWays$Numbers"
abbrev wsX80 : List Cond := u_ws RX8 TX8 1
theorem nmX8 : ∀ a, a < 1 → ∀ b, b < 1 → a ≠ b → (TX8 a).2.1 ≠ (TX8 b).2.1 := by decide +kernel
theorem tyX8_ok : ∀ k, k < 1 → parseFieldDescriptor (TX8 k).2.2.1 = some (tyX8 k) := by decide +kernel
abbrev cX8_init : ByteArray := prog_10_method_1_code
def yX8_init : MethodName := ⟨RX8, "<init>", "()V"⟩
abbrev cX8_firstEnough : ByteArray := prog_10_method_2_code
def yX8_firstEnough : MethodName := ⟨RX8, "firstEnough", "(II)I"⟩
def RX9 : String := "DredgeWays"
def TX9 : u_T := fun k => match k with
  | 0 => ("DredgeWays", "rules", "LDredgeWays$Numbers;", true)
  | 1 => ("DredgeWays", "ground", "LDredgeWays$Ground;", true)
  | 2 => ("DredgeWays", "clouds", "LDredgeWays$Clouds;", true)
  | 3 => ("DredgeWays", "tides", "LDredgeWays$Tides;", true)
  | 4 => ("DredgeWays", "ship", "LDredgeWays$Ship;", true)
  | 5 => ("DredgeWays", "pass", "LDredgeWays$Pass;", true)
  | 6 => ("DredgeWays", "spots", "LDredgeWays$Spots;", true)
  | 7 => ("DredgeWays", "posts", "LDredgeWays$Posts;", true)
  | 8 => ("DredgeWays", "sheets", "LDredgeWays$Sheets;", true)
  | 9 => ("DredgeWays", "hour", "I", false)
  | 10 => ("DredgeWays", "trips", "I", false)
  | _ => ("DredgeWays", "dug", "I", false)
def tyX9 : Nat → FieldType := fun k => match k with
  | 0 => .object "DredgeWays$Numbers"
  | 1 => .object "DredgeWays$Ground"
  | 2 => .object "DredgeWays$Clouds"
  | 3 => .object "DredgeWays$Tides"
  | 4 => .object "DredgeWays$Ship"
  | 5 => .object "DredgeWays$Pass"
  | 6 => .object "DredgeWays$Spots"
  | 7 => .object "DredgeWays$Posts"
  | 8 => .object "DredgeWays$Sheets"
  | 9 => .int
  | 10 => .int
  | _ => .int
abbrev wsX90 : List Cond := u_ws RX9 TX9 12
theorem nmX9 : ∀ a, a < 12 → ∀ b, b < 12 → a ≠ b → (TX9 a).2.1 ≠ (TX9 b).2.1 := by decide +kernel
theorem tyX9_ok : ∀ k, k < 12 → parseFieldDescriptor (TX9 k).2.2.1 = some (tyX9 k) := by decide +kernel
abbrev cX9_init : ByteArray := prog_1_method_1_code
def yX9_init : MethodName := ⟨RX9, "<init>", "()V"⟩
abbrev cX9_board : ByteArray := prog_1_method_2_code
def yX9_board : MethodName := ⟨RX9, "board", "(II)I"⟩
abbrev cX9_lay : ByteArray := prog_1_method_3_code
def yX9_lay : MethodName := ⟨RX9, "lay", "(III)I"⟩
abbrev cX9_rule : ByteArray := prog_1_method_4_code
def yX9_rule : MethodName := ⟨RX9, "rule", "(II)I"⟩
abbrev cX9_tide : ByteArray := prog_1_method_5_code
def yX9_tide : MethodName := ⟨RX9, "tide", "(II)I"⟩
abbrev cX9_hold : ByteArray := prog_1_method_6_code
def yX9_hold : MethodName := ⟨RX9, "hold", "(II)I"⟩
abbrev cX9_spot : ByteArray := prog_1_method_7_code
def yX9_spot : MethodName := ⟨RX9, "spot", "(III)I"⟩
abbrev cX9_post : ByteArray := prog_1_method_8_code
def yX9_post : MethodName := ⟨RX9, "post", "(II)I"⟩
abbrev cX9_best : ByteArray := prog_1_method_9_code
def yX9_best : MethodName := ⟨RX9, "best", "(I)I"⟩
abbrev cX9_trip : ByteArray := prog_1_method_10_code
def yX9_trip : MethodName := ⟨RX9, "trip", "(IIIII)I"⟩
abbrev cX9_hours : ByteArray := prog_1_method_11_code
def yX9_hours : MethodName := ⟨RX9, "hours", "(I)I"⟩
abbrev cX9_sound : ByteArray := prog_1_method_12_code
def yX9_sound : MethodName := ⟨RX9, "sound", "(I)I"⟩
abbrev cX9_lose : ByteArray := prog_1_method_13_code
def yX9_lose : MethodName := ⟨RX9, "lose", "(II)I"⟩
abbrev cX9_join : ByteArray := prog_1_method_14_code
def yX9_join : MethodName := ⟨RX9, "join", "(II)I"⟩
abbrev cX9_between : ByteArray := prog_1_method_15_code
def yX9_between : MethodName := ⟨RX9, "between", "(III)I"⟩
abbrev cX9_sounded : ByteArray := prog_1_method_16_code
def yX9_sounded : MethodName := ⟨RX9, "sounded", "(II)I"⟩
abbrev cX9_cell : ByteArray := prog_1_method_17_code
def yX9_cell : MethodName := ⟨RX9, "cell", "(II)I"⟩
abbrev cX9_about : ByteArray := prog_1_method_18_code
def yX9_about : MethodName := ⟨RX9, "about", "(II)I"⟩
abbrev cX9_broken : ByteArray := prog_1_method_19_code
def yX9_broken : MethodName := ⟨RX9, "broken", "(I)I"⟩
abbrev cX9_count : ByteArray := prog_1_method_20_code
def yX9_count : MethodName := ⟨RX9, "count", "(I)I"⟩
abbrev cX9_startAnew : ByteArray := prog_1_method_21_code
def yX9_startAnew : MethodName := ⟨RX9, "startAnew", "(II)V"⟩
abbrev cX9_startRules : ByteArray := prog_1_method_22_code
def yX9_startRules : MethodName := ⟨RX9, "startRules", "()V"⟩
abbrev cX9_leastOfRule : ByteArray := prog_1_method_23_code
def yX9_leastOfRule : MethodName := ⟨RX9, "leastOfRule", "(I)I"⟩
abbrev cX9_mostOfRule : ByteArray := prog_1_method_24_code
def yX9_mostOfRule : MethodName := ⟨RX9, "mostOfRule", "(I)I"⟩
abbrev cX9_within : ByteArray := prog_1_method_25_code
def yX9_within : MethodName := ⟨RX9, "within", "(III)Z"⟩
abbrev cX9_homeHour : ByteArray := prog_1_method_26_code
def yX9_homeHour : MethodName := ⟨RX9, "homeHour", "(II)I"⟩
abbrev cX9_carryOut : ByteArray := prog_1_method_27_code
def yX9_carryOut : MethodName := ⟨RX9, "carryOut", "(II)V"⟩
abbrev cX9_passHours : ByteArray := prog_1_method_28_code
def yX9_passHours : MethodName := ⟨RX9, "passHours", "(I)V"⟩
abbrev cX9_endHour : ByteArray := prog_1_method_29_code
def yX9_endHour : MethodName := ⟨RX9, "endHour", "()V"⟩
def RX10 : String := "DredgeWaysModel"
def TX10 : u_T := fun k => match k with
  | 0 => ("DredgeWaysModel", "columns", "I", false)
  | 1 => ("DredgeWaysModel", "rows", "I", false)
  | 2 => ("DredgeWaysModel", "depth", "[I", true)
  | 3 => ("DredgeWaysModel", "design", "[I", true)
  | 4 => ("DredgeWaysModel", "cloud", "[I", true)
  | 5 => ("DredgeWaysModel", "settled", "[I", true)
  | 6 => ("DredgeWaysModel", "spare", "[I", true)
  | 7 => ("DredgeWaysModel", "rules", "[I", true)
  | 8 => ("DredgeWaysModel", "tide", "[I", true)
  | 9 => ("DredgeWaysModel", "most", "[I", true)
  | 10 => ("DredgeWaysModel", "away", "[I", true)
  | 11 => ("DredgeWaysModel", "held", "[I", true)
  | 12 => ("DredgeWaysModel", "table", "[I", true)
  | 13 => ("DredgeWaysModel", "posts", "I", false)
  | 14 => ("DredgeWaysModel", "postCell", "[I", true)
  | 15 => ("DredgeWaysModel", "postLimit", "[I", true)
  | 16 => ("DredgeWaysModel", "postBroken", "[I", true)
  | 17 => ("DredgeWaysModel", "isSheet", "[Z", true)
  | 18 => ("DredgeWaysModel", "sheet", "[I", true)
  | 19 => ("DredgeWaysModel", "hour", "I", false)
  | 20 => ("DredgeWaysModel", "trips", "I", false)
  | 21 => ("DredgeWaysModel", "dug", "I", false)
  | 22 => ("DredgeWaysModel", "came", "I", false)
  | 23 => ("DredgeWaysModel", "gone", "I", false)
  | 24 => ("DredgeWaysModel", "settledAll", "I", false)
  | 25 => ("DredgeWaysModel", "silted", "I", false)
  | _ => ("DredgeWaysModel", "last", "I", false)
def tyX10 : Nat → FieldType := fun k => match k with
  | 0 => .int
  | 1 => .int
  | 2 => .array .int
  | 3 => .array .int
  | 4 => .array .int
  | 5 => .array .int
  | 6 => .array .int
  | 7 => .array .int
  | 8 => .array .int
  | 9 => .array .int
  | 10 => .array .int
  | 11 => .array .int
  | 12 => .array .int
  | 13 => .int
  | 14 => .array .int
  | 15 => .array .int
  | 16 => .array .int
  | 17 => .array .boolean
  | 18 => .array .int
  | 19 => .int
  | 20 => .int
  | 21 => .int
  | 22 => .int
  | 23 => .int
  | 24 => .int
  | 25 => .int
  | _ => .int
abbrev wsX100 : List Cond := u_ws RX10 TX10 27
theorem nmX10 : ∀ a, a < 27 → ∀ b, b < 27 → a ≠ b → (TX10 a).2.1 ≠ (TX10 b).2.1 := by decide +kernel
theorem tyX10_ok : ∀ k, k < 27 → parseFieldDescriptor (TX10 k).2.2.1 = some (tyX10 k) := by decide +kernel
abbrev cX10_init : ByteArray := prog_12_method_1_code
def yX10_init : MethodName := ⟨RX10, "<init>", "()V"⟩
abbrev cX10_in : ByteArray := prog_12_method_2_code
def yX10_in : MethodName := ⟨RX10, "in", "(III)Z"⟩
abbrev cX10_isCell : ByteArray := prog_12_method_3_code
def yX10_isCell : MethodName := ⟨RX10, "isCell", "(I)Z"⟩
abbrev cX10_anew : ByteArray := prog_12_method_4_code
def yX10_anew : MethodName := ⟨RX10, "anew", "()V"⟩
abbrev cX10_board : ByteArray := prog_12_method_5_code
def yX10_board : MethodName := ⟨RX10, "board", "(II)I"⟩
abbrev cX10_lay : ByteArray := prog_12_method_6_code
def yX10_lay : MethodName := ⟨RX10, "lay", "(III)I"⟩
abbrev cX10_rule : ByteArray := prog_12_method_7_code
def yX10_rule : MethodName := ⟨RX10, "rule", "(II)I"⟩
abbrev cX10_tide : ByteArray := prog_12_method_8_code
def yX10_tide : MethodName := ⟨RX10, "tide", "(II)I"⟩
abbrev cX10_hold : ByteArray := prog_12_method_9_code
def yX10_hold : MethodName := ⟨RX10, "hold", "(II)I"⟩
abbrev cX10_isSpot : ByteArray := prog_12_method_10_code
def yX10_isSpot : MethodName := ⟨RX10, "isSpot", "(I)Z"⟩
abbrev cX10_spot : ByteArray := prog_12_method_11_code
def yX10_spot : MethodName := ⟨RX10, "spot", "(III)I"⟩
abbrev cX10_post : ByteArray := prog_12_method_12_code
def yX10_post : MethodName := ⟨RX10, "post", "(II)I"⟩
abbrev cX10_best : ByteArray := prog_12_method_13_code
def yX10_best : MethodName := ⟨RX10, "best", "(I)I"⟩
abbrev cX10_drifts : ByteArray := prog_12_method_14_code
def yX10_drifts : MethodName := ⟨RX10, "drifts", "()V"⟩
abbrev cX10_mean : ByteArray := prog_12_method_15_code
def yX10_mean : MethodName := ⟨RX10, "mean", "(I)I"⟩
abbrev cX10_silts : ByteArray := prog_12_method_16_code
def yX10_silts : MethodName := ⟨RX10, "silts", "()V"⟩
abbrev cX10_passes : ByteArray := prog_12_method_17_code
def yX10_passes : MethodName := ⟨RX10, "passes", "()V"⟩
abbrev cX10_hours : ByteArray := prog_12_method_18_code
def yX10_hours : MethodName := ⟨RX10, "hours", "(I)I"⟩
abbrev cX10_digs : ByteArray := prog_12_method_19_code
def yX10_digs : MethodName := ⟨RX10, "digs", "(IIII)I"⟩
abbrev cX10_waits : ByteArray := prog_12_method_20_code
def yX10_waits : MethodName := ⟨RX10, "waits", "(II)I"⟩
abbrev cX10_trip : ByteArray := prog_12_method_21_code
def yX10_trip : MethodName := ⟨RX10, "trip", "(IIIII)I"⟩
abbrev cX10_isSix : ByteArray := prog_12_method_22_code
def yX10_isSix : MethodName := ⟨RX10, "isSix", "(I)Z"⟩
abbrev cX10_sound : ByteArray := prog_12_method_23_code
def yX10_sound : MethodName := ⟨RX10, "sound", "(I)I"⟩
abbrev cX10_lose : ByteArray := prog_12_method_24_code
def yX10_lose : MethodName := ⟨RX10, "lose", "(II)I"⟩
abbrev cX10_join : ByteArray := prog_12_method_25_code
def yX10_join : MethodName := ⟨RX10, "join", "(II)I"⟩
abbrev cX10_between : ByteArray := prog_12_method_26_code
def yX10_between : MethodName := ⟨RX10, "between", "(III)I"⟩
abbrev cX10_sounded : ByteArray := prog_12_method_27_code
def yX10_sounded : MethodName := ⟨RX10, "sounded", "(II)I"⟩
abbrev cX10_cell : ByteArray := prog_12_method_28_code
def yX10_cell : MethodName := ⟨RX10, "cell", "(II)I"⟩
abbrev cX10_about : ByteArray := prog_12_method_29_code
def yX10_about : MethodName := ⟨RX10, "about", "(II)I"⟩
abbrev cX10_broken : ByteArray := prog_12_method_30_code
def yX10_broken : MethodName := ⟨RX10, "broken", "(I)I"⟩
abbrev cX10_undone : ByteArray := prog_12_method_31_code
def yX10_undone : MethodName := ⟨RX10, "undone", "()I"⟩
abbrev cX10_count : ByteArray := prog_12_method_32_code
def yX10_count : MethodName := ⟨RX10, "count", "(I)I"⟩
def RJ9 : String := "java/lang/Math"
def TJ9 : u_T := fun k => match k with
  | _ => ("", "", "", false)
def tyJ9 : Nat → FieldType := fun k => match k with
  | _ => .int
abbrev wsJ90 : List Cond := u_ws RJ9 TJ9 0
theorem nmJ9 : ∀ a, a < 0 → ∀ b, b < 0 → a ≠ b → (TJ9 a).2.1 ≠ (TJ9 b).2.1 := by decide +kernel
theorem tyJ9_ok : ∀ k, k < 0 → parseFieldDescriptor (TJ9 k).2.2.1 = some (tyJ9 k) := by decide +kernel
abbrev cJ9_abs_0f7a4 : ByteArray := prog_13_method_59_code
def yJ9_abs_0f7a4 : MethodName := ⟨RJ9, "abs", "(I)I"⟩
abbrev cJ9_max_7cf53 : ByteArray := prog_13_method_65_code
def yJ9_max_7cf53 : MethodName := ⟨RJ9, "max", "(II)I"⟩
abbrev cJ9_min_7cf53 : ByteArray := prog_13_method_69_code
def yJ9_min_7cf53 : MethodName := ⟨RJ9, "min", "(II)I"⟩
def RL : String := "DredgeWaysLaw"
abbrev cL_law : ByteArray := code
def yL_law : MethodName := ⟨RL, "law", "([I)Z"⟩
theorem goodIn_r {big : List Cond} (ws : List Cond) (ps : List Nat) (hp : ws = ps.filterMap (fun i => big[i]?)) (h : ws.all goodWord = true) : GoodIn big ws := by
  intro w hw
  have h1 := List.all_eq_true.mp h w hw
  rw [hp] at hw
  obtain ⟨i, -, hi⟩ := List.mem_filterMap.mp hw
  have hm : w ∈ big := by first | exact List.mem_of_getElem? hi | exact List.getElem?_mem hi
  exact ⟨hm, good_of_word h1⟩
theorem dX0_init_0 : decode cX0_init 0 = .ok (.aload_n 0, 1) := by decide +kernel
theorem dX0_init_1 : decode cX0_init 1 = .ok (.invokespecial 3, 3) := by decide +kernel
theorem dX0_init_4 : decode cX0_init 4 = .ok (.aload_n 0, 1) := by decide +kernel
theorem dX0_init_5 : decode cX0_init 5 = .ok (.new 9, 3) := by decide +kernel
theorem dX0_init_8 : decode cX0_init 8 = .ok (.dup, 1) := by decide +kernel
theorem dX0_init_9 : decode cX0_init 9 = .ok (.bipush 120, 2) := by decide +kernel
theorem dX0_init_11 : decode cX0_init 11 = .ok (.invokespecial 11, 3) := by decide +kernel
theorem dX0_init_14 : decode cX0_init 14 = .ok (.putfield 14, 3) := by decide +kernel
theorem dX0_init_17 : decode cX0_init 17 = .ok (.aload_n 0, 1) := by decide +kernel
theorem dX0_init_18 : decode cX0_init 18 = .ok (.new 9, 3) := by decide +kernel
theorem dX0_init_21 : decode cX0_init 21 = .ok (.dup, 1) := by decide +kernel
theorem dX0_init_22 : decode cX0_init 22 = .ok (.bipush 120, 2) := by decide +kernel
theorem dX0_init_24 : decode cX0_init 24 = .ok (.invokespecial 11, 3) := by decide +kernel
theorem dX0_init_27 : decode cX0_init 27 = .ok (.putfield 20, 3) := by decide +kernel
theorem dX0_init_30 : decode cX0_init 30 = .ok (.aload_n 0, 1) := by decide +kernel
theorem dX0_init_31 : decode cX0_init 31 = .ok (.new 9, 3) := by decide +kernel
theorem dX0_init_34 : decode cX0_init 34 = .ok (.dup, 1) := by decide +kernel
theorem dX0_init_35 : decode cX0_init 35 = .ok (.bipush 120, 2) := by decide +kernel
theorem dX0_init_37 : decode cX0_init 37 = .ok (.invokespecial 11, 3) := by decide +kernel
theorem dX0_init_40 : decode cX0_init 40 = .ok (.putfield 23, 3) := by decide +kernel
theorem dX0_init_43 : decode cX0_init 43 = .ok (.return_, 1) := by decide +kernel
theorem dX0_start_0 : decode cX0_start 0 = .ok (.aload_n 0, 1) := by decide +kernel
theorem dX0_start_1 : decode cX0_start 1 = .ok (.getfield 14, 3) := by decide +kernel
theorem dX0_start_4 : decode cX0_start 4 = .ok (.iconst 0, 1) := by decide +kernel
theorem dX0_start_5 : decode cX0_start 5 = .ok (.invokevirtual 26, 3) := by decide +kernel
theorem dX0_start_8 : decode cX0_start 8 = .ok (.aload_n 0, 1) := by decide +kernel
theorem dX0_start_9 : decode cX0_start 9 = .ok (.getfield 20, 3) := by decide +kernel
theorem dX0_start_12 : decode cX0_start 12 = .ok (.iconst 0, 1) := by decide +kernel
theorem dX0_start_13 : decode cX0_start 13 = .ok (.invokevirtual 26, 3) := by decide +kernel
theorem dX0_start_16 : decode cX0_start 16 = .ok (.aload_n 0, 1) := by decide +kernel
theorem dX0_start_17 : decode cX0_start 17 = .ok (.iconst 0, 1) := by decide +kernel
theorem dX0_start_18 : decode cX0_start 18 = .ok (.putfield 29, 3) := by decide +kernel
theorem dX0_start_21 : decode cX0_start 21 = .ok (.aload_n 0, 1) := by decide +kernel
theorem dX0_start_22 : decode cX0_start 22 = .ok (.iconst 0, 1) := by decide +kernel
theorem dX0_start_23 : decode cX0_start 23 = .ok (.putfield 33, 3) := by decide +kernel
theorem dX0_start_26 : decode cX0_start 26 = .ok (.aload_n 0, 1) := by decide +kernel
theorem dX0_start_27 : decode cX0_start 27 = .ok (.iconst 0, 1) := by decide +kernel
theorem dX0_start_28 : decode cX0_start 28 = .ok (.putfield 36, 3) := by decide +kernel
theorem dX0_start_31 : decode cX0_start 31 = .ok (.return_, 1) := by decide +kernel
theorem dX0_come_0 : decode cX0_come 0 = .ok (.aload_n 0, 1) := by decide +kernel
theorem dX0_come_1 : decode cX0_come 1 = .ok (.getfield 14, 3) := by decide +kernel
theorem dX0_come_4 : decode cX0_come 4 = .ok (.iload_n 1, 1) := by decide +kernel
theorem dX0_come_5 : decode cX0_come 5 = .ok (.iload_n 2, 1) := by decide +kernel
theorem dX0_come_6 : decode cX0_come 6 = .ok (.invokevirtual 39, 3) := by decide +kernel
theorem dX0_come_9 : decode cX0_come 9 = .ok (.aload_n 0, 1) := by decide +kernel
theorem dX0_come_10 : decode cX0_come 10 = .ok (.dup, 1) := by decide +kernel
theorem dX0_come_11 : decode cX0_come 11 = .ok (.getfield 29, 3) := by decide +kernel
theorem dX0_come_14 : decode cX0_come 14 = .ok (.iload_n 2, 1) := by decide +kernel
theorem dX0_come_15 : decode cX0_come 15 = .ok (.iadd, 1) := by decide +kernel
theorem dX0_come_16 : decode cX0_come 16 = .ok (.putfield 29, 3) := by decide +kernel
theorem dX0_come_19 : decode cX0_come 19 = .ok (.return_, 1) := by decide +kernel
theorem dX0_drift_0 : decode cX0_drift 0 = .ok (.aload_n 0, 1) := by decide +kernel
theorem dX0_drift_1 : decode cX0_drift 1 = .ok (.getfield 23, 3) := by decide +kernel
theorem dX0_drift_4 : decode cX0_drift 4 = .ok (.iconst 0, 1) := by decide +kernel
theorem dX0_drift_5 : decode cX0_drift 5 = .ok (.invokevirtual 26, 3) := by decide +kernel
theorem dX0_drift_8 : decode cX0_drift 8 = .ok (.iconst 0, 1) := by decide +kernel
theorem dX0_drift_9 : decode cX0_drift 9 = .ok (.istore_n 3, 1) := by decide +kernel
theorem dX0_drift_10 : decode cX0_drift 10 = .ok (.iload_n 3, 1) := by decide +kernel
theorem dX0_drift_11 : decode cX0_drift 11 = .ok (.aload_n 1, 1) := by decide +kernel
theorem dX0_drift_12 : decode cX0_drift 12 = .ok (.getfield 43, 3) := by decide +kernel
theorem dX0_drift_15 : decode cX0_drift 15 = .ok (.if_icmp .ge 115, 3) := by decide +kernel
theorem dX0_drift_18 : decode cX0_drift 18 = .ok (.iconst 0, 1) := by decide +kernel
theorem dX0_drift_19 : decode cX0_drift 19 = .ok (.istore 4, 2) := by decide +kernel
theorem dX0_drift_21 : decode cX0_drift 21 = .ok (.iload 4, 2) := by decide +kernel
theorem dX0_drift_23 : decode cX0_drift 23 = .ok (.aload_n 1, 1) := by decide +kernel
theorem dX0_drift_24 : decode cX0_drift 24 = .ok (.getfield 48, 3) := by decide +kernel
theorem dX0_drift_27 : decode cX0_drift 27 = .ok (.if_icmp .ge 97, 3) := by decide +kernel
theorem dX0_drift_30 : decode cX0_drift 30 = .ok (.aload_n 1, 1) := by decide +kernel
theorem dX0_drift_31 : decode cX0_drift 31 = .ok (.iload_n 3, 1) := by decide +kernel
theorem dX0_drift_32 : decode cX0_drift 32 = .ok (.iload 4, 2) := by decide +kernel
theorem dX0_drift_34 : decode cX0_drift 34 = .ok (.invokevirtual 51, 3) := by decide +kernel
theorem dX0_drift_37 : decode cX0_drift 37 = .ok (.istore 5, 2) := by decide +kernel
theorem dX0_drift_39 : decode cX0_drift 39 = .ok (.aload_n 0, 1) := by decide +kernel
theorem dX0_drift_40 : decode cX0_drift 40 = .ok (.getfield 14, 3) := by decide +kernel
theorem dX0_drift_43 : decode cX0_drift 43 = .ok (.iload 5, 2) := by decide +kernel
theorem dX0_drift_45 : decode cX0_drift 45 = .ok (.invokevirtual 55, 3) := by decide +kernel
theorem dX0_drift_48 : decode cX0_drift 48 = .ok (.iconst 4, 1) := by decide +kernel
theorem dX0_drift_49 : decode cX0_drift 49 = .ok (.idiv, 1) := by decide +kernel
theorem dX0_drift_50 : decode cX0_drift 50 = .ok (.istore 6, 2) := by decide +kernel
theorem dX0_drift_52 : decode cX0_drift 52 = .ok (.iload_n 2, 1) := by decide +kernel
theorem dX0_drift_53 : decode cX0_drift 53 = .ok (.ifCond .ne 7, 3) := by decide +kernel
theorem dX0_drift_56 : decode cX0_drift 56 = .ok (.iconst 0, 1) := by decide +kernel
theorem dX0_drift_57 : decode cX0_drift 57 = .ok (.goto 14, 3) := by decide +kernel
theorem dX0_drift_60 : decode cX0_drift 60 = .ok (.aload_n 0, 1) := by decide +kernel
theorem dX0_drift_61 : decode cX0_drift 61 = .ok (.getfield 14, 3) := by decide +kernel
theorem dX0_drift_64 : decode cX0_drift 64 = .ok (.iload 5, 2) := by decide +kernel
theorem dX0_drift_66 : decode cX0_drift 66 = .ok (.invokevirtual 55, 3) := by decide +kernel
theorem dX0_drift_69 : decode cX0_drift 69 = .ok (.iconst 2, 1) := by decide +kernel
theorem dX0_drift_70 : decode cX0_drift 70 = .ok (.idiv, 1) := by decide +kernel
theorem dX0_drift_71 : decode cX0_drift 71 = .ok (.istore 7, 2) := by decide +kernel
theorem dX0_drift_73 : decode cX0_drift 73 = .ok (.aload_n 0, 1) := by decide +kernel
theorem dX0_drift_74 : decode cX0_drift 74 = .ok (.getfield 23, 3) := by decide +kernel
theorem dX0_drift_77 : decode cX0_drift 77 = .ok (.iload 5, 2) := by decide +kernel
theorem dX0_drift_79 : decode cX0_drift 79 = .ok (.aload_n 0, 1) := by decide +kernel
theorem dX0_drift_80 : decode cX0_drift 80 = .ok (.getfield 14, 3) := by decide +kernel
theorem dX0_drift_83 : decode cX0_drift 83 = .ok (.iload 5, 2) := by decide +kernel
theorem dX0_drift_85 : decode cX0_drift 85 = .ok (.invokevirtual 55, 3) := by decide +kernel
theorem dX0_drift_88 : decode cX0_drift 88 = .ok (.iload 6, 2) := by decide +kernel
theorem dX0_drift_90 : decode cX0_drift 90 = .ok (.isub, 1) := by decide +kernel
theorem dX0_drift_91 : decode cX0_drift 91 = .ok (.iload 7, 2) := by decide +kernel
theorem dX0_drift_93 : decode cX0_drift 93 = .ok (.isub, 1) := by decide +kernel
theorem dX0_drift_94 : decode cX0_drift 94 = .ok (.invokevirtual 39, 3) := by decide +kernel
theorem dX0_drift_97 : decode cX0_drift 97 = .ok (.aload_n 0, 1) := by decide +kernel
theorem dX0_drift_98 : decode cX0_drift 98 = .ok (.aload_n 1, 1) := by decide +kernel
theorem dX0_drift_99 : decode cX0_drift 99 = .ok (.iload 5, 2) := by decide +kernel
theorem dX0_drift_101 : decode cX0_drift 101 = .ok (.iload 6, 2) := by decide +kernel
theorem dX0_drift_103 : decode cX0_drift 103 = .ok (.invokevirtual 59, 3) := by decide +kernel
theorem dX0_drift_106 : decode cX0_drift 106 = .ok (.aload_n 0, 1) := by decide +kernel
theorem dX0_drift_107 : decode cX0_drift 107 = .ok (.aload_n 1, 1) := by decide +kernel
theorem dX0_drift_108 : decode cX0_drift 108 = .ok (.iload_n 3, 1) := by decide +kernel
theorem dX0_drift_109 : decode cX0_drift 109 = .ok (.iload 4, 2) := by decide +kernel
theorem dX0_drift_111 : decode cX0_drift 111 = .ok (.iload_n 2, 1) := by decide +kernel
theorem dX0_drift_112 : decode cX0_drift 112 = .ok (.iadd, 1) := by decide +kernel
theorem dX0_drift_113 : decode cX0_drift 113 = .ok (.iload 7, 2) := by decide +kernel
theorem dX0_drift_115 : decode cX0_drift 115 = .ok (.invokevirtual 63, 3) := by decide +kernel
theorem dX0_drift_118 : decode cX0_drift 118 = .ok (.iinc 4 1, 3) := by decide +kernel
theorem dX0_drift_121 : decode cX0_drift 121 = .ok (.goto (-100), 3) := by decide +kernel
theorem dX0_drift_124 : decode cX0_drift 124 = .ok (.iinc 3 1, 3) := by decide +kernel
theorem dX0_drift_127 : decode cX0_drift 127 = .ok (.goto (-117), 3) := by decide +kernel
theorem dX0_drift_130 : decode cX0_drift 130 = .ok (.iconst 0, 1) := by decide +kernel
theorem dX0_drift_131 : decode cX0_drift 131 = .ok (.istore_n 3, 1) := by decide +kernel
theorem dX0_drift_132 : decode cX0_drift 132 = .ok (.iload_n 3, 1) := by decide +kernel
theorem dX0_drift_133 : decode cX0_drift 133 = .ok (.aload_n 1, 1) := by decide +kernel
theorem dX0_drift_134 : decode cX0_drift 134 = .ok (.invokevirtual 67, 3) := by decide +kernel
theorem dX0_drift_137 : decode cX0_drift 137 = .ok (.if_icmp .ge 26, 3) := by decide +kernel
theorem dX0_drift_140 : decode cX0_drift 140 = .ok (.aload_n 0, 1) := by decide +kernel
theorem dX0_drift_141 : decode cX0_drift 141 = .ok (.getfield 14, 3) := by decide +kernel
theorem dX0_drift_144 : decode cX0_drift 144 = .ok (.iload_n 3, 1) := by decide +kernel
theorem dX0_drift_145 : decode cX0_drift 145 = .ok (.aload_n 0, 1) := by decide +kernel
theorem dX0_drift_146 : decode cX0_drift 146 = .ok (.getfield 23, 3) := by decide +kernel
theorem dX0_drift_149 : decode cX0_drift 149 = .ok (.iload_n 3, 1) := by decide +kernel
theorem dX0_drift_150 : decode cX0_drift 150 = .ok (.invokevirtual 55, 3) := by decide +kernel
theorem dX0_drift_153 : decode cX0_drift 153 = .ok (.invokevirtual 71, 3) := by decide +kernel
theorem dX0_drift_156 : decode cX0_drift 156 = .ok (.pop, 1) := by decide +kernel
theorem dX0_drift_157 : decode cX0_drift 157 = .ok (.iinc 3 1, 3) := by decide +kernel
theorem dX0_drift_160 : decode cX0_drift 160 = .ok (.goto (-28), 3) := by decide +kernel
theorem dX0_drift_163 : decode cX0_drift 163 = .ok (.return_, 1) := by decide +kernel
theorem dX0_driftOn_0 : decode cX0_driftOn 0 = .ok (.aload_n 1, 1) := by decide +kernel
theorem dX0_driftOn_1 : decode cX0_driftOn 1 = .ok (.iload_n 3, 1) := by decide +kernel
theorem dX0_driftOn_2 : decode cX0_driftOn 2 = .ok (.invokevirtual 74, 3) := by decide +kernel
theorem dX0_driftOn_5 : decode cX0_driftOn 5 = .ok (.ifCond .eq 21, 3) := by decide +kernel
theorem dX0_driftOn_8 : decode cX0_driftOn 8 = .ok (.aload_n 0, 1) := by decide +kernel
theorem dX0_driftOn_9 : decode cX0_driftOn 9 = .ok (.getfield 23, 3) := by decide +kernel
theorem dX0_driftOn_12 : decode cX0_driftOn 12 = .ok (.aload_n 1, 1) := by decide +kernel
theorem dX0_driftOn_13 : decode cX0_driftOn 13 = .ok (.iload_n 2, 1) := by decide +kernel
theorem dX0_driftOn_14 : decode cX0_driftOn 14 = .ok (.iload_n 3, 1) := by decide +kernel
theorem dX0_driftOn_15 : decode cX0_driftOn 15 = .ok (.invokevirtual 51, 3) := by decide +kernel
theorem dX0_driftOn_18 : decode cX0_driftOn 18 = .ok (.iload 4, 2) := by decide +kernel
theorem dX0_driftOn_20 : decode cX0_driftOn 20 = .ok (.invokevirtual 39, 3) := by decide +kernel
theorem dX0_driftOn_23 : decode cX0_driftOn 23 = .ok (.goto 14, 3) := by decide +kernel
theorem dX0_driftOn_26 : decode cX0_driftOn 26 = .ok (.aload_n 0, 1) := by decide +kernel
theorem dX0_driftOn_27 : decode cX0_driftOn 27 = .ok (.dup, 1) := by decide +kernel
theorem dX0_driftOn_28 : decode cX0_driftOn 28 = .ok (.getfield 33, 3) := by decide +kernel
theorem dX0_driftOn_31 : decode cX0_driftOn 31 = .ok (.iload 4, 2) := by decide +kernel
theorem dX0_driftOn_33 : decode cX0_driftOn 33 = .ok (.iadd, 1) := by decide +kernel
theorem dX0_driftOn_34 : decode cX0_driftOn 34 = .ok (.putfield 33, 3) := by decide +kernel
theorem dX0_driftOn_37 : decode cX0_driftOn 37 = .ok (.return_, 1) := by decide +kernel
theorem dX0_settle_0 : decode cX0_settle 0 = .ok (.aload_n 0, 1) := by decide +kernel
theorem dX0_settle_1 : decode cX0_settle 1 = .ok (.getfield 20, 3) := by decide +kernel
theorem dX0_settle_4 : decode cX0_settle 4 = .ok (.iload_n 2, 1) := by decide +kernel
theorem dX0_settle_5 : decode cX0_settle 5 = .ok (.invokevirtual 55, 3) := by decide +kernel
theorem dX0_settle_8 : decode cX0_settle 8 = .ok (.iload_n 3, 1) := by decide +kernel
theorem dX0_settle_9 : decode cX0_settle 9 = .ok (.iadd, 1) := by decide +kernel
theorem dX0_settle_10 : decode cX0_settle 10 = .ok (.istore 4, 2) := by decide +kernel
theorem dX0_settle_12 : decode cX0_settle 12 = .ok (.aload_n 1, 1) := by decide +kernel
theorem dX0_settle_13 : decode cX0_settle 13 = .ok (.iload_n 2, 1) := by decide +kernel
theorem dX0_settle_14 : decode cX0_settle 14 = .ok (.iload 4, 2) := by decide +kernel
theorem dX0_settle_16 : decode cX0_settle 16 = .ok (.iconst 4, 1) := by decide +kernel
theorem dX0_settle_17 : decode cX0_settle 17 = .ok (.idiv, 1) := by decide +kernel
theorem dX0_settle_18 : decode cX0_settle 18 = .ok (.invokevirtual 78, 3) := by decide +kernel
theorem dX0_settle_21 : decode cX0_settle 21 = .ok (.aload_n 0, 1) := by decide +kernel
theorem dX0_settle_22 : decode cX0_settle 22 = .ok (.getfield 20, 3) := by decide +kernel
theorem dX0_settle_25 : decode cX0_settle 25 = .ok (.iload_n 2, 1) := by decide +kernel
theorem dX0_settle_26 : decode cX0_settle 26 = .ok (.iload 4, 2) := by decide +kernel
theorem dX0_settle_28 : decode cX0_settle 28 = .ok (.iconst 4, 1) := by decide +kernel
theorem dX0_settle_29 : decode cX0_settle 29 = .ok (.irem, 1) := by decide +kernel
theorem dX0_settle_30 : decode cX0_settle 30 = .ok (.invokevirtual 71, 3) := by decide +kernel
theorem dX0_settle_33 : decode cX0_settle 33 = .ok (.pop, 1) := by decide +kernel
theorem dX0_settle_34 : decode cX0_settle 34 = .ok (.aload_n 0, 1) := by decide +kernel
theorem dX0_settle_35 : decode cX0_settle 35 = .ok (.dup, 1) := by decide +kernel
theorem dX0_settle_36 : decode cX0_settle 36 = .ok (.getfield 36, 3) := by decide +kernel
theorem dX0_settle_39 : decode cX0_settle 39 = .ok (.iload_n 3, 1) := by decide +kernel
theorem dX0_settle_40 : decode cX0_settle 40 = .ok (.iadd, 1) := by decide +kernel
theorem dX0_settle_41 : decode cX0_settle 41 = .ok (.putfield 36, 3) := by decide +kernel
theorem dX0_settle_44 : decode cX0_settle 44 = .ok (.return_, 1) := by decide +kernel
theorem dX1_init_0 : decode cX1_init 0 = .ok (.aload_n 0, 1) := by decide +kernel
theorem dX1_init_1 : decode cX1_init 1 = .ok (.invokespecial 3, 3) := by decide +kernel
theorem dX1_init_4 : decode cX1_init 4 = .ok (.aload_n 0, 1) := by decide +kernel
theorem dX1_init_5 : decode cX1_init 5 = .ok (.new 9, 3) := by decide +kernel
theorem dX1_init_8 : decode cX1_init 8 = .ok (.dup, 1) := by decide +kernel
theorem dX1_init_9 : decode cX1_init 9 = .ok (.bipush 120, 2) := by decide +kernel
theorem dX1_init_11 : decode cX1_init 11 = .ok (.invokespecial 11, 3) := by decide +kernel
theorem dX1_init_14 : decode cX1_init 14 = .ok (.putfield 14, 3) := by decide +kernel
theorem dX1_init_17 : decode cX1_init 17 = .ok (.aload_n 0, 1) := by decide +kernel
theorem dX1_init_18 : decode cX1_init 18 = .ok (.new 9, 3) := by decide +kernel
theorem dX1_init_21 : decode cX1_init 21 = .ok (.dup, 1) := by decide +kernel
theorem dX1_init_22 : decode cX1_init 22 = .ok (.bipush 120, 2) := by decide +kernel
theorem dX1_init_24 : decode cX1_init 24 = .ok (.invokespecial 11, 3) := by decide +kernel
theorem dX1_init_27 : decode cX1_init 27 = .ok (.putfield 20, 3) := by decide +kernel
theorem dX1_init_30 : decode cX1_init 30 = .ok (.aload_n 0, 1) := by decide +kernel
theorem dX1_init_31 : decode cX1_init 31 = .ok (.new 9, 3) := by decide +kernel
theorem dX1_init_34 : decode cX1_init 34 = .ok (.dup, 1) := by decide +kernel
theorem dX1_init_35 : decode cX1_init 35 = .ok (.bipush 120, 2) := by decide +kernel
theorem dX1_init_37 : decode cX1_init 37 = .ok (.invokespecial 11, 3) := by decide +kernel
theorem dX1_init_40 : decode cX1_init 40 = .ok (.putfield 23, 3) := by decide +kernel
theorem dX1_init_43 : decode cX1_init 43 = .ok (.return_, 1) := by decide +kernel
theorem dX1_start_0 : decode cX1_start 0 = .ok (.aload_n 0, 1) := by decide +kernel
theorem dX1_start_1 : decode cX1_start 1 = .ok (.iload_n 1, 1) := by decide +kernel
theorem dX1_start_2 : decode cX1_start 2 = .ok (.putfield 26, 3) := by decide +kernel
theorem dX1_start_5 : decode cX1_start 5 = .ok (.aload_n 0, 1) := by decide +kernel
theorem dX1_start_6 : decode cX1_start 6 = .ok (.iload_n 2, 1) := by decide +kernel
theorem dX1_start_7 : decode cX1_start 7 = .ok (.putfield 30, 3) := by decide +kernel
theorem dX1_start_10 : decode cX1_start 10 = .ok (.aload_n 0, 1) := by decide +kernel
theorem dX1_start_11 : decode cX1_start 11 = .ok (.iconst 0, 1) := by decide +kernel
theorem dX1_start_12 : decode cX1_start 12 = .ok (.putfield 33, 3) := by decide +kernel
theorem dX1_start_15 : decode cX1_start 15 = .ok (.aload_n 0, 1) := by decide +kernel
theorem dX1_start_16 : decode cX1_start 16 = .ok (.getfield 14, 3) := by decide +kernel
theorem dX1_start_19 : decode cX1_start 19 = .ok (.iconst 0, 1) := by decide +kernel
theorem dX1_start_20 : decode cX1_start 20 = .ok (.invokevirtual 36, 3) := by decide +kernel
theorem dX1_start_23 : decode cX1_start 23 = .ok (.aload_n 0, 1) := by decide +kernel
theorem dX1_start_24 : decode cX1_start 24 = .ok (.getfield 20, 3) := by decide +kernel
theorem dX1_start_27 : decode cX1_start 27 = .ok (.iconst 0, 1) := by decide +kernel
theorem dX1_start_28 : decode cX1_start 28 = .ok (.invokevirtual 36, 3) := by decide +kernel
theorem dX1_start_31 : decode cX1_start 31 = .ok (.return_, 1) := by decide +kernel
theorem dX1_size_0 : decode cX1_size 0 = .ok (.aload_n 0, 1) := by decide +kernel
theorem dX1_size_1 : decode cX1_size 1 = .ok (.getfield 26, 3) := by decide +kernel
theorem dX1_size_4 : decode cX1_size 4 = .ok (.aload_n 0, 1) := by decide +kernel
theorem dX1_size_5 : decode cX1_size 5 = .ok (.getfield 30, 3) := by decide +kernel
theorem dX1_size_8 : decode cX1_size 8 = .ok (.imul, 1) := by decide +kernel
theorem dX1_size_9 : decode cX1_size 9 = .ok (.ireturn, 1) := by decide +kernel
theorem dX1_has_0 : decode cX1_has 0 = .ok (.iload_n 1, 1) := by decide +kernel
theorem dX1_has_1 : decode cX1_has 1 = .ok (.iconst 0, 1) := by decide +kernel
theorem dX1_has_2 : decode cX1_has 2 = .ok (.aload_n 0, 1) := by decide +kernel
theorem dX1_has_3 : decode cX1_has 3 = .ok (.invokevirtual 39, 3) := by decide +kernel
theorem dX1_has_6 : decode cX1_has 6 = .ok (.iconst 1, 1) := by decide +kernel
theorem dX1_has_7 : decode cX1_has 7 = .ok (.isub, 1) := by decide +kernel
theorem dX1_has_8 : decode cX1_has 8 = .ok (.invokestatic 43, 3) := by decide +kernel
theorem dX1_has_11 : decode cX1_has 11 = .ok (.ireturn, 1) := by decide +kernel
theorem dX1_hasRow_0 : decode cX1_hasRow 0 = .ok (.iload_n 1, 1) := by decide +kernel
theorem dX1_hasRow_1 : decode cX1_hasRow 1 = .ok (.iconst 0, 1) := by decide +kernel
theorem dX1_hasRow_2 : decode cX1_hasRow 2 = .ok (.aload_n 0, 1) := by decide +kernel
theorem dX1_hasRow_3 : decode cX1_hasRow 3 = .ok (.getfield 30, 3) := by decide +kernel
theorem dX1_hasRow_6 : decode cX1_hasRow 6 = .ok (.iconst 1, 1) := by decide +kernel
theorem dX1_hasRow_7 : decode cX1_hasRow 7 = .ok (.isub, 1) := by decide +kernel
theorem dX1_hasRow_8 : decode cX1_hasRow 8 = .ok (.invokestatic 43, 3) := by decide +kernel
theorem dX1_hasRow_11 : decode cX1_hasRow 11 = .ok (.ireturn, 1) := by decide +kernel
theorem dX1_hasColumn_0 : decode cX1_hasColumn 0 = .ok (.iload_n 1, 1) := by decide +kernel
theorem dX1_hasColumn_1 : decode cX1_hasColumn 1 = .ok (.iconst 0, 1) := by decide +kernel
theorem dX1_hasColumn_2 : decode cX1_hasColumn 2 = .ok (.aload_n 0, 1) := by decide +kernel
theorem dX1_hasColumn_3 : decode cX1_hasColumn 3 = .ok (.getfield 26, 3) := by decide +kernel
theorem dX1_hasColumn_6 : decode cX1_hasColumn 6 = .ok (.iconst 1, 1) := by decide +kernel
theorem dX1_hasColumn_7 : decode cX1_hasColumn 7 = .ok (.isub, 1) := by decide +kernel
theorem dX1_hasColumn_8 : decode cX1_hasColumn 8 = .ok (.invokestatic 43, 3) := by decide +kernel
theorem dX1_hasColumn_11 : decode cX1_hasColumn 11 = .ok (.ireturn, 1) := by decide +kernel
theorem dX1_number_0 : decode cX1_number 0 = .ok (.iload_n 1, 1) := by decide +kernel
theorem dX1_number_1 : decode cX1_number 1 = .ok (.aload_n 0, 1) := by decide +kernel
theorem dX1_number_2 : decode cX1_number 2 = .ok (.getfield 26, 3) := by decide +kernel
theorem dX1_number_5 : decode cX1_number 5 = .ok (.imul, 1) := by decide +kernel
theorem dX1_number_6 : decode cX1_number 6 = .ok (.iload_n 2, 1) := by decide +kernel
theorem dX1_number_7 : decode cX1_number 7 = .ok (.iadd, 1) := by decide +kernel
theorem dX1_number_8 : decode cX1_number 8 = .ok (.ireturn, 1) := by decide +kernel
theorem dX1_room_0 : decode cX1_room 0 = .ok (.aload_n 0, 1) := by decide +kernel
theorem dX1_room_1 : decode cX1_room 1 = .ok (.getfield 20, 3) := by decide +kernel
theorem dX1_room_4 : decode cX1_room 4 = .ok (.iload_n 1, 1) := by decide +kernel
theorem dX1_room_5 : decode cX1_room 5 = .ok (.invokevirtual 47, 3) := by decide +kernel
theorem dX1_room_8 : decode cX1_room 8 = .ok (.ifCond .ne 5, 3) := by decide +kernel
theorem dX1_room_11 : decode cX1_room 11 = .ok (.iconst 0, 1) := by decide +kernel
theorem dX1_room_12 : decode cX1_room 12 = .ok (.ireturn, 1) := by decide +kernel
theorem dX1_room_13 : decode cX1_room 13 = .ok (.iconst 0, 1) := by decide +kernel
theorem dX1_room_14 : decode cX1_room 14 = .ok (.aload_n 0, 1) := by decide +kernel
theorem dX1_room_15 : decode cX1_room 15 = .ok (.getfield 20, 3) := by decide +kernel
theorem dX1_room_18 : decode cX1_room 18 = .ok (.iload_n 1, 1) := by decide +kernel
theorem dX1_room_19 : decode cX1_room 19 = .ok (.invokevirtual 47, 3) := by decide +kernel
theorem dX1_room_22 : decode cX1_room 22 = .ok (.iload_n 2, 1) := by decide +kernel
theorem dX1_room_23 : decode cX1_room 23 = .ok (.iadd, 1) := by decide +kernel
theorem dX1_room_24 : decode cX1_room 24 = .ok (.aload_n 0, 1) := by decide +kernel
theorem dX1_room_25 : decode cX1_room 25 = .ok (.getfield 14, 3) := by decide +kernel
theorem dX1_room_28 : decode cX1_room 28 = .ok (.iload_n 1, 1) := by decide +kernel
theorem dX1_room_29 : decode cX1_room 29 = .ok (.invokevirtual 47, 3) := by decide +kernel
theorem dX1_room_32 : decode cX1_room 32 = .ok (.isub, 1) := by decide +kernel
theorem dX1_room_33 : decode cX1_room 33 = .ok (.invokestatic 51, 3) := by decide +kernel
theorem dX1_room_36 : decode cX1_room 36 = .ok (.ireturn, 1) := by decide +kernel
theorem dX1_unfinished_0 : decode cX1_unfinished 0 = .ok (.iconst 0, 1) := by decide +kernel
theorem dX1_unfinished_1 : decode cX1_unfinished 1 = .ok (.istore_n 1, 1) := by decide +kernel
theorem dX1_unfinished_2 : decode cX1_unfinished 2 = .ok (.iconst 0, 1) := by decide +kernel
theorem dX1_unfinished_3 : decode cX1_unfinished 3 = .ok (.istore_n 2, 1) := by decide +kernel
theorem dX1_unfinished_4 : decode cX1_unfinished 4 = .ok (.iload_n 2, 1) := by decide +kernel
theorem dX1_unfinished_5 : decode cX1_unfinished 5 = .ok (.aload_n 0, 1) := by decide +kernel
theorem dX1_unfinished_6 : decode cX1_unfinished 6 = .ok (.invokevirtual 39, 3) := by decide +kernel
theorem dX1_unfinished_9 : decode cX1_unfinished 9 = .ok (.if_icmp .ge 31, 3) := by decide +kernel
theorem dX1_unfinished_12 : decode cX1_unfinished 12 = .ok (.aload_n 0, 1) := by decide +kernel
theorem dX1_unfinished_13 : decode cX1_unfinished 13 = .ok (.getfield 14, 3) := by decide +kernel
theorem dX1_unfinished_16 : decode cX1_unfinished 16 = .ok (.iload_n 2, 1) := by decide +kernel
theorem dX1_unfinished_17 : decode cX1_unfinished 17 = .ok (.invokevirtual 47, 3) := by decide +kernel
theorem dX1_unfinished_20 : decode cX1_unfinished 20 = .ok (.aload_n 0, 1) := by decide +kernel
theorem dX1_unfinished_21 : decode cX1_unfinished 21 = .ok (.getfield 20, 3) := by decide +kernel
theorem dX1_unfinished_24 : decode cX1_unfinished 24 = .ok (.iload_n 2, 1) := by decide +kernel
theorem dX1_unfinished_25 : decode cX1_unfinished 25 = .ok (.invokevirtual 47, 3) := by decide +kernel
theorem dX1_unfinished_28 : decode cX1_unfinished 28 = .ok (.if_icmp .ge 6, 3) := by decide +kernel
theorem dX1_unfinished_31 : decode cX1_unfinished 31 = .ok (.iinc 1 1, 3) := by decide +kernel
theorem dX1_unfinished_34 : decode cX1_unfinished 34 = .ok (.iinc 2 1, 3) := by decide +kernel
theorem dX1_unfinished_37 : decode cX1_unfinished 37 = .ok (.goto (-33), 3) := by decide +kernel
theorem dX1_unfinished_40 : decode cX1_unfinished 40 = .ok (.iload_n 1, 1) := by decide +kernel
theorem dX1_unfinished_41 : decode cX1_unfinished 41 = .ok (.ireturn, 1) := by decide +kernel
theorem dX1_raise_0 : decode cX1_raise 0 = .ok (.aload_n 0, 1) := by decide +kernel
theorem dX1_raise_1 : decode cX1_raise 1 = .ok (.getfield 14, 3) := by decide +kernel
theorem dX1_raise_4 : decode cX1_raise 4 = .ok (.iload_n 1, 1) := by decide +kernel
theorem dX1_raise_5 : decode cX1_raise 5 = .ok (.iconst 0, 1) := by decide +kernel
theorem dX1_raise_6 : decode cX1_raise 6 = .ok (.aload_n 0, 1) := by decide +kernel
theorem dX1_raise_7 : decode cX1_raise 7 = .ok (.getfield 14, 3) := by decide +kernel
theorem dX1_raise_10 : decode cX1_raise 10 = .ok (.iload_n 1, 1) := by decide +kernel
theorem dX1_raise_11 : decode cX1_raise 11 = .ok (.invokevirtual 47, 3) := by decide +kernel
theorem dX1_raise_14 : decode cX1_raise 14 = .ok (.iload_n 2, 1) := by decide +kernel
theorem dX1_raise_15 : decode cX1_raise 15 = .ok (.isub, 1) := by decide +kernel
theorem dX1_raise_16 : decode cX1_raise 16 = .ok (.invokestatic 51, 3) := by decide +kernel
theorem dX1_raise_19 : decode cX1_raise 19 = .ok (.invokevirtual 57, 3) := by decide +kernel
theorem dX1_raise_22 : decode cX1_raise 22 = .ok (.pop, 1) := by decide +kernel
theorem dX1_raise_23 : decode cX1_raise 23 = .ok (.return_, 1) := by decide +kernel
theorem dX1_siltUp_0 : decode cX1_siltUp 0 = .ok (.iconst 0, 1) := by decide +kernel
theorem dX1_siltUp_1 : decode cX1_siltUp 1 = .ok (.istore_n 1, 1) := by decide +kernel
theorem dX1_siltUp_2 : decode cX1_siltUp 2 = .ok (.iload_n 1, 1) := by decide +kernel
theorem dX1_siltUp_3 : decode cX1_siltUp 3 = .ok (.aload_n 0, 1) := by decide +kernel
theorem dX1_siltUp_4 : decode cX1_siltUp 4 = .ok (.getfield 30, 3) := by decide +kernel
theorem dX1_siltUp_7 : decode cX1_siltUp 7 = .ok (.if_icmp .ge 53, 3) := by decide +kernel
theorem dX1_siltUp_10 : decode cX1_siltUp 10 = .ok (.iconst 0, 1) := by decide +kernel
theorem dX1_siltUp_11 : decode cX1_siltUp 11 = .ok (.istore_n 2, 1) := by decide +kernel
theorem dX1_siltUp_12 : decode cX1_siltUp 12 = .ok (.iload_n 2, 1) := by decide +kernel
theorem dX1_siltUp_13 : decode cX1_siltUp 13 = .ok (.aload_n 0, 1) := by decide +kernel
theorem dX1_siltUp_14 : decode cX1_siltUp 14 = .ok (.getfield 26, 3) := by decide +kernel
theorem dX1_siltUp_17 : decode cX1_siltUp 17 = .ok (.if_icmp .ge 37, 3) := by decide +kernel
theorem dX1_siltUp_20 : decode cX1_siltUp 20 = .ok (.aload_n 0, 1) := by decide +kernel
theorem dX1_siltUp_21 : decode cX1_siltUp 21 = .ok (.getfield 23, 3) := by decide +kernel
theorem dX1_siltUp_24 : decode cX1_siltUp 24 = .ok (.aload_n 0, 1) := by decide +kernel
theorem dX1_siltUp_25 : decode cX1_siltUp 25 = .ok (.iload_n 1, 1) := by decide +kernel
theorem dX1_siltUp_26 : decode cX1_siltUp 26 = .ok (.iload_n 2, 1) := by decide +kernel
theorem dX1_siltUp_27 : decode cX1_siltUp 27 = .ok (.invokevirtual 60, 3) := by decide +kernel
theorem dX1_siltUp_30 : decode cX1_siltUp 30 = .ok (.aload_n 0, 1) := by decide +kernel
theorem dX1_siltUp_31 : decode cX1_siltUp 31 = .ok (.iload_n 1, 1) := by decide +kernel
theorem dX1_siltUp_32 : decode cX1_siltUp 32 = .ok (.iload_n 2, 1) := by decide +kernel
theorem dX1_siltUp_33 : decode cX1_siltUp 33 = .ok (.invokevirtual 63, 3) := by decide +kernel
theorem dX1_siltUp_36 : decode cX1_siltUp 36 = .ok (.ifCond .eq 7, 3) := by decide +kernel
theorem dX1_siltUp_39 : decode cX1_siltUp 39 = .ok (.iconst 1, 1) := by decide +kernel
theorem dX1_siltUp_40 : decode cX1_siltUp 40 = .ok (.goto 4, 3) := by decide +kernel
theorem dX1_siltUp_43 : decode cX1_siltUp 43 = .ok (.iconst 0, 1) := by decide +kernel
theorem dX1_siltUp_44 : decode cX1_siltUp 44 = .ok (.invokevirtual 57, 3) := by decide +kernel
theorem dX1_siltUp_47 : decode cX1_siltUp 47 = .ok (.pop, 1) := by decide +kernel
theorem dX1_siltUp_48 : decode cX1_siltUp 48 = .ok (.iinc 2 1, 3) := by decide +kernel
theorem dX1_siltUp_51 : decode cX1_siltUp 51 = .ok (.goto (-39), 3) := by decide +kernel
theorem dX1_siltUp_54 : decode cX1_siltUp 54 = .ok (.iinc 1 1, 3) := by decide +kernel
theorem dX1_siltUp_57 : decode cX1_siltUp 57 = .ok (.goto (-55), 3) := by decide +kernel
theorem dX1_siltUp_60 : decode cX1_siltUp 60 = .ok (.iconst 0, 1) := by decide +kernel
theorem dX1_siltUp_61 : decode cX1_siltUp 61 = .ok (.istore_n 1, 1) := by decide +kernel
theorem dX1_siltUp_62 : decode cX1_siltUp 62 = .ok (.iload_n 1, 1) := by decide +kernel
theorem dX1_siltUp_63 : decode cX1_siltUp 63 = .ok (.aload_n 0, 1) := by decide +kernel
theorem dX1_siltUp_64 : decode cX1_siltUp 64 = .ok (.invokevirtual 39, 3) := by decide +kernel
theorem dX1_siltUp_67 : decode cX1_siltUp 67 = .ok (.if_icmp .ge 39, 3) := by decide +kernel
theorem dX1_siltUp_70 : decode cX1_siltUp 70 = .ok (.aload_n 0, 1) := by decide +kernel
theorem dX1_siltUp_71 : decode cX1_siltUp 71 = .ok (.iload_n 1, 1) := by decide +kernel
theorem dX1_siltUp_72 : decode cX1_siltUp 72 = .ok (.aload_n 0, 1) := by decide +kernel
theorem dX1_siltUp_73 : decode cX1_siltUp 73 = .ok (.getfield 23, 3) := by decide +kernel
theorem dX1_siltUp_76 : decode cX1_siltUp 76 = .ok (.iload_n 1, 1) := by decide +kernel
theorem dX1_siltUp_77 : decode cX1_siltUp 77 = .ok (.invokevirtual 47, 3) := by decide +kernel
theorem dX1_siltUp_80 : decode cX1_siltUp 80 = .ok (.invokevirtual 67, 3) := by decide +kernel
theorem dX1_siltUp_83 : decode cX1_siltUp 83 = .ok (.aload_n 0, 1) := by decide +kernel
theorem dX1_siltUp_84 : decode cX1_siltUp 84 = .ok (.dup, 1) := by decide +kernel
theorem dX1_siltUp_85 : decode cX1_siltUp 85 = .ok (.getfield 33, 3) := by decide +kernel
theorem dX1_siltUp_88 : decode cX1_siltUp 88 = .ok (.aload_n 0, 1) := by decide +kernel
theorem dX1_siltUp_89 : decode cX1_siltUp 89 = .ok (.getfield 23, 3) := by decide +kernel
theorem dX1_siltUp_92 : decode cX1_siltUp 92 = .ok (.iload_n 1, 1) := by decide +kernel
theorem dX1_siltUp_93 : decode cX1_siltUp 93 = .ok (.invokevirtual 47, 3) := by decide +kernel
theorem dX1_siltUp_96 : decode cX1_siltUp 96 = .ok (.iadd, 1) := by decide +kernel
theorem dX1_siltUp_97 : decode cX1_siltUp 97 = .ok (.putfield 33, 3) := by decide +kernel
theorem dX1_siltUp_100 : decode cX1_siltUp 100 = .ok (.iinc 1 1, 3) := by decide +kernel
theorem dX1_siltUp_103 : decode cX1_siltUp 103 = .ok (.goto (-41), 3) := by decide +kernel
theorem dX1_siltUp_106 : decode cX1_siltUp 106 = .ok (.return_, 1) := by decide +kernel
theorem dX1_gathersSilt_0 : decode cX1_gathersSilt 0 = .ok (.aload_n 0, 1) := by decide +kernel
theorem dX1_gathersSilt_1 : decode cX1_gathersSilt 1 = .ok (.iload_n 1, 1) := by decide +kernel
theorem dX1_gathersSilt_2 : decode cX1_gathersSilt 2 = .ok (.iload_n 2, 1) := by decide +kernel
theorem dX1_gathersSilt_3 : decode cX1_gathersSilt 3 = .ok (.invokevirtual 60, 3) := by decide +kernel
theorem dX1_gathersSilt_6 : decode cX1_gathersSilt 6 = .ok (.istore_n 3, 1) := by decide +kernel
theorem dX1_gathersSilt_7 : decode cX1_gathersSilt 7 = .ok (.aload_n 0, 1) := by decide +kernel
theorem dX1_gathersSilt_8 : decode cX1_gathersSilt 8 = .ok (.getfield 20, 3) := by decide +kernel
theorem dX1_gathersSilt_11 : decode cX1_gathersSilt 11 = .ok (.iload_n 3, 1) := by decide +kernel
theorem dX1_gathersSilt_12 : decode cX1_gathersSilt 12 = .ok (.invokevirtual 47, 3) := by decide +kernel
theorem dX1_gathersSilt_15 : decode cX1_gathersSilt 15 = .ok (.ifCond .ne 5, 3) := by decide +kernel
theorem dX1_gathersSilt_18 : decode cX1_gathersSilt 18 = .ok (.iconst 0, 1) := by decide +kernel
theorem dX1_gathersSilt_19 : decode cX1_gathersSilt 19 = .ok (.ireturn, 1) := by decide +kernel
theorem dX1_gathersSilt_20 : decode cX1_gathersSilt 20 = .ok (.iconst 0, 1) := by decide +kernel
theorem dX1_gathersSilt_21 : decode cX1_gathersSilt 21 = .ok (.istore 4, 2) := by decide +kernel
theorem dX1_gathersSilt_23 : decode cX1_gathersSilt 23 = .ok (.iconst 0, 1) := by decide +kernel
theorem dX1_gathersSilt_24 : decode cX1_gathersSilt 24 = .ok (.istore 5, 2) := by decide +kernel
theorem dX1_gathersSilt_26 : decode cX1_gathersSilt 26 = .ok (.iconst (-1), 1) := by decide +kernel
theorem dX1_gathersSilt_27 : decode cX1_gathersSilt 27 = .ok (.istore 6, 2) := by decide +kernel
theorem dX1_gathersSilt_29 : decode cX1_gathersSilt 29 = .ok (.iload 6, 2) := by decide +kernel
theorem dX1_gathersSilt_31 : decode cX1_gathersSilt 31 = .ok (.iconst 1, 1) := by decide +kernel
theorem dX1_gathersSilt_32 : decode cX1_gathersSilt 32 = .ok (.if_icmp .gt 79, 3) := by decide +kernel
theorem dX1_gathersSilt_35 : decode cX1_gathersSilt 35 = .ok (.aload_n 0, 1) := by decide +kernel
theorem dX1_gathersSilt_36 : decode cX1_gathersSilt 36 = .ok (.iload_n 1, 1) := by decide +kernel
theorem dX1_gathersSilt_37 : decode cX1_gathersSilt 37 = .ok (.iload 6, 2) := by decide +kernel
theorem dX1_gathersSilt_39 : decode cX1_gathersSilt 39 = .ok (.iadd, 1) := by decide +kernel
theorem dX1_gathersSilt_40 : decode cX1_gathersSilt 40 = .ok (.invokevirtual 71, 3) := by decide +kernel
theorem dX1_gathersSilt_43 : decode cX1_gathersSilt 43 = .ok (.ifCond .eq 27, 3) := by decide +kernel
theorem dX1_gathersSilt_46 : decode cX1_gathersSilt 46 = .ok (.iload 4, 2) := by decide +kernel
theorem dX1_gathersSilt_48 : decode cX1_gathersSilt 48 = .ok (.aload_n 0, 1) := by decide +kernel
theorem dX1_gathersSilt_49 : decode cX1_gathersSilt 49 = .ok (.getfield 14, 3) := by decide +kernel
theorem dX1_gathersSilt_52 : decode cX1_gathersSilt 52 = .ok (.aload_n 0, 1) := by decide +kernel
theorem dX1_gathersSilt_53 : decode cX1_gathersSilt 53 = .ok (.iload_n 1, 1) := by decide +kernel
theorem dX1_gathersSilt_54 : decode cX1_gathersSilt 54 = .ok (.iload 6, 2) := by decide +kernel
theorem dX1_gathersSilt_56 : decode cX1_gathersSilt 56 = .ok (.iadd, 1) := by decide +kernel
theorem dX1_gathersSilt_57 : decode cX1_gathersSilt 57 = .ok (.iload_n 2, 1) := by decide +kernel
theorem dX1_gathersSilt_58 : decode cX1_gathersSilt 58 = .ok (.invokevirtual 60, 3) := by decide +kernel
theorem dX1_gathersSilt_61 : decode cX1_gathersSilt 61 = .ok (.invokevirtual 47, 3) := by decide +kernel
theorem dX1_gathersSilt_64 : decode cX1_gathersSilt 64 = .ok (.iadd, 1) := by decide +kernel
theorem dX1_gathersSilt_65 : decode cX1_gathersSilt 65 = .ok (.istore 4, 2) := by decide +kernel
theorem dX1_gathersSilt_67 : decode cX1_gathersSilt 67 = .ok (.iinc 5 1, 3) := by decide +kernel
theorem dX1_gathersSilt_70 : decode cX1_gathersSilt 70 = .ok (.aload_n 0, 1) := by decide +kernel
theorem dX1_gathersSilt_71 : decode cX1_gathersSilt 71 = .ok (.iload_n 2, 1) := by decide +kernel
theorem dX1_gathersSilt_72 : decode cX1_gathersSilt 72 = .ok (.iload 6, 2) := by decide +kernel
theorem dX1_gathersSilt_74 : decode cX1_gathersSilt 74 = .ok (.iadd, 1) := by decide +kernel
theorem dX1_gathersSilt_75 : decode cX1_gathersSilt 75 = .ok (.invokevirtual 75, 3) := by decide +kernel
theorem dX1_gathersSilt_78 : decode cX1_gathersSilt 78 = .ok (.ifCond .eq 27, 3) := by decide +kernel
theorem dX1_gathersSilt_81 : decode cX1_gathersSilt 81 = .ok (.iload 4, 2) := by decide +kernel
theorem dX1_gathersSilt_83 : decode cX1_gathersSilt 83 = .ok (.aload_n 0, 1) := by decide +kernel
theorem dX1_gathersSilt_84 : decode cX1_gathersSilt 84 = .ok (.getfield 14, 3) := by decide +kernel
theorem dX1_gathersSilt_87 : decode cX1_gathersSilt 87 = .ok (.aload_n 0, 1) := by decide +kernel
theorem dX1_gathersSilt_88 : decode cX1_gathersSilt 88 = .ok (.iload_n 1, 1) := by decide +kernel
theorem dX1_gathersSilt_89 : decode cX1_gathersSilt 89 = .ok (.iload_n 2, 1) := by decide +kernel
theorem dX1_gathersSilt_90 : decode cX1_gathersSilt 90 = .ok (.iload 6, 2) := by decide +kernel
theorem dX1_gathersSilt_92 : decode cX1_gathersSilt 92 = .ok (.iadd, 1) := by decide +kernel
theorem dX1_gathersSilt_93 : decode cX1_gathersSilt 93 = .ok (.invokevirtual 60, 3) := by decide +kernel
theorem dX1_gathersSilt_96 : decode cX1_gathersSilt 96 = .ok (.invokevirtual 47, 3) := by decide +kernel
theorem dX1_gathersSilt_99 : decode cX1_gathersSilt 99 = .ok (.iadd, 1) := by decide +kernel
theorem dX1_gathersSilt_100 : decode cX1_gathersSilt 100 = .ok (.istore 4, 2) := by decide +kernel
theorem dX1_gathersSilt_102 : decode cX1_gathersSilt 102 = .ok (.iinc 5 1, 3) := by decide +kernel
theorem dX1_gathersSilt_105 : decode cX1_gathersSilt 105 = .ok (.iinc 6 2, 3) := by decide +kernel
theorem dX1_gathersSilt_108 : decode cX1_gathersSilt 108 = .ok (.goto (-79), 3) := by decide +kernel
theorem dX1_gathersSilt_111 : decode cX1_gathersSilt 111 = .ok (.iload 5, 2) := by decide +kernel
theorem dX1_gathersSilt_113 : decode cX1_gathersSilt 113 = .ok (.ifCond .le 23, 3) := by decide +kernel
theorem dX1_gathersSilt_116 : decode cX1_gathersSilt 116 = .ok (.aload_n 0, 1) := by decide +kernel
theorem dX1_gathersSilt_117 : decode cX1_gathersSilt 117 = .ok (.getfield 14, 3) := by decide +kernel
theorem dX1_gathersSilt_120 : decode cX1_gathersSilt 120 = .ok (.iload_n 3, 1) := by decide +kernel
theorem dX1_gathersSilt_121 : decode cX1_gathersSilt 121 = .ok (.invokevirtual 47, 3) := by decide +kernel
theorem dX1_gathersSilt_124 : decode cX1_gathersSilt 124 = .ok (.iload 4, 2) := by decide +kernel
theorem dX1_gathersSilt_126 : decode cX1_gathersSilt 126 = .ok (.iload 5, 2) := by decide +kernel
theorem dX1_gathersSilt_128 : decode cX1_gathersSilt 128 = .ok (.idiv, 1) := by decide +kernel
theorem dX1_gathersSilt_129 : decode cX1_gathersSilt 129 = .ok (.if_icmp .le 7, 3) := by decide +kernel
theorem dX1_gathersSilt_132 : decode cX1_gathersSilt 132 = .ok (.iconst 1, 1) := by decide +kernel
theorem dX1_gathersSilt_133 : decode cX1_gathersSilt 133 = .ok (.goto 4, 3) := by decide +kernel
theorem dX1_gathersSilt_136 : decode cX1_gathersSilt 136 = .ok (.iconst 0, 1) := by decide +kernel
theorem dX1_gathersSilt_137 : decode cX1_gathersSilt 137 = .ok (.ireturn, 1) := by decide +kernel
theorem dX2_init_0 : decode cX2_init 0 = .ok (.aload_n 0, 1) := by decide +kernel
theorem dX2_init_1 : decode cX2_init 1 = .ok (.invokespecial 1, 3) := by decide +kernel
theorem dX2_init_4 : decode cX2_init 4 = .ok (.aload_n 0, 1) := by decide +kernel
theorem dX2_init_5 : decode cX2_init 5 = .ok (.iconst 0, 1) := by decide +kernel
theorem dX2_init_6 : decode cX2_init 6 = .ok (.iload_n 1, 1) := by decide +kernel
theorem dX2_init_7 : decode cX2_init 7 = .ok (.invokestatic 7, 3) := by decide +kernel
theorem dX2_init_10 : decode cX2_init 10 = .ok (.newarray .int, 2) := by decide +kernel
theorem dX2_init_12 : decode cX2_init 12 = .ok (.putfield 13, 3) := by decide +kernel
theorem dX2_init_15 : decode cX2_init 15 = .ok (.return_, 1) := by decide +kernel
theorem dX2_get_0 : decode cX2_get 0 = .ok (.iload_n 1, 1) := by decide +kernel
theorem dX2_get_1 : decode cX2_get 1 = .ok (.ifCond .lt 21, 3) := by decide +kernel
theorem dX2_get_4 : decode cX2_get 4 = .ok (.iload_n 1, 1) := by decide +kernel
theorem dX2_get_5 : decode cX2_get 5 = .ok (.aload_n 0, 1) := by decide +kernel
theorem dX2_get_6 : decode cX2_get 6 = .ok (.getfield 13, 3) := by decide +kernel
theorem dX2_get_9 : decode cX2_get 9 = .ok (.arraylength, 1) := by decide +kernel
theorem dX2_get_10 : decode cX2_get 10 = .ok (.if_icmp .ge 12, 3) := by decide +kernel
theorem dX2_get_13 : decode cX2_get 13 = .ok (.aload_n 0, 1) := by decide +kernel
theorem dX2_get_14 : decode cX2_get 14 = .ok (.getfield 13, 3) := by decide +kernel
theorem dX2_get_17 : decode cX2_get 17 = .ok (.iload_n 1, 1) := by decide +kernel
theorem dX2_get_18 : decode cX2_get 18 = .ok (.iaload, 1) := by decide +kernel
theorem dX2_get_19 : decode cX2_get 19 = .ok (.goto 4, 3) := by decide +kernel
theorem dX2_get_22 : decode cX2_get 22 = .ok (.iconst 0, 1) := by decide +kernel
theorem dX2_get_23 : decode cX2_get 23 = .ok (.ireturn, 1) := by decide +kernel
theorem dX2_put_0 : decode cX2_put 0 = .ok (.iload_n 1, 1) := by decide +kernel
theorem dX2_put_1 : decode cX2_put 1 = .ok (.ifCond .lt 12, 3) := by decide +kernel
theorem dX2_put_4 : decode cX2_put 4 = .ok (.iload_n 1, 1) := by decide +kernel
theorem dX2_put_5 : decode cX2_put 5 = .ok (.aload_n 0, 1) := by decide +kernel
theorem dX2_put_6 : decode cX2_put 6 = .ok (.getfield 13, 3) := by decide +kernel
theorem dX2_put_9 : decode cX2_put 9 = .ok (.arraylength, 1) := by decide +kernel
theorem dX2_put_10 : decode cX2_put 10 = .ok (.if_icmp .lt 5, 3) := by decide +kernel
theorem dX2_put_13 : decode cX2_put 13 = .ok (.iconst 0, 1) := by decide +kernel
theorem dX2_put_14 : decode cX2_put 14 = .ok (.ireturn, 1) := by decide +kernel
theorem dX2_put_15 : decode cX2_put 15 = .ok (.aload_n 0, 1) := by decide +kernel
theorem dX2_put_16 : decode cX2_put 16 = .ok (.getfield 13, 3) := by decide +kernel
theorem dX2_put_19 : decode cX2_put 19 = .ok (.iload_n 1, 1) := by decide +kernel
theorem dX2_put_20 : decode cX2_put 20 = .ok (.iaload, 1) := by decide +kernel
theorem dX2_put_21 : decode cX2_put 21 = .ok (.istore_n 3, 1) := by decide +kernel
theorem dX2_put_22 : decode cX2_put 22 = .ok (.aload_n 0, 1) := by decide +kernel
theorem dX2_put_23 : decode cX2_put 23 = .ok (.getfield 13, 3) := by decide +kernel
theorem dX2_put_26 : decode cX2_put 26 = .ok (.iload_n 1, 1) := by decide +kernel
theorem dX2_put_27 : decode cX2_put 27 = .ok (.iload_n 2, 1) := by decide +kernel
theorem dX2_put_28 : decode cX2_put 28 = .ok (.iastore, 1) := by decide +kernel
theorem dX2_put_29 : decode cX2_put 29 = .ok (.iload_n 3, 1) := by decide +kernel
theorem dX2_put_30 : decode cX2_put 30 = .ok (.ireturn, 1) := by decide +kernel
theorem dX2_add_0 : decode cX2_add 0 = .ok (.aload_n 0, 1) := by decide +kernel
theorem dX2_add_1 : decode cX2_add 1 = .ok (.iload_n 1, 1) := by decide +kernel
theorem dX2_add_2 : decode cX2_add 2 = .ok (.aload_n 0, 1) := by decide +kernel
theorem dX2_add_3 : decode cX2_add 3 = .ok (.iload_n 1, 1) := by decide +kernel
theorem dX2_add_4 : decode cX2_add 4 = .ok (.invokevirtual 19, 3) := by decide +kernel
theorem dX2_add_7 : decode cX2_add 7 = .ok (.iload_n 2, 1) := by decide +kernel
theorem dX2_add_8 : decode cX2_add 8 = .ok (.iadd, 1) := by decide +kernel
theorem dX2_add_9 : decode cX2_add 9 = .ok (.invokevirtual 23, 3) := by decide +kernel
theorem dX2_add_12 : decode cX2_add 12 = .ok (.pop, 1) := by decide +kernel
theorem dX2_add_13 : decode cX2_add 13 = .ok (.return_, 1) := by decide +kernel
theorem dX2_fill_0 : decode cX2_fill 0 = .ok (.iconst 0, 1) := by decide +kernel
theorem dX2_fill_1 : decode cX2_fill 1 = .ok (.istore_n 2, 1) := by decide +kernel
theorem dX2_fill_2 : decode cX2_fill 2 = .ok (.iload_n 2, 1) := by decide +kernel
theorem dX2_fill_3 : decode cX2_fill 3 = .ok (.aload_n 0, 1) := by decide +kernel
theorem dX2_fill_4 : decode cX2_fill 4 = .ok (.getfield 13, 3) := by decide +kernel
theorem dX2_fill_7 : decode cX2_fill 7 = .ok (.arraylength, 1) := by decide +kernel
theorem dX2_fill_8 : decode cX2_fill 8 = .ok (.if_icmp .ge 16, 3) := by decide +kernel
theorem dX2_fill_11 : decode cX2_fill 11 = .ok (.aload_n 0, 1) := by decide +kernel
theorem dX2_fill_12 : decode cX2_fill 12 = .ok (.getfield 13, 3) := by decide +kernel
theorem dX2_fill_15 : decode cX2_fill 15 = .ok (.iload_n 2, 1) := by decide +kernel
theorem dX2_fill_16 : decode cX2_fill 16 = .ok (.iload_n 1, 1) := by decide +kernel
theorem dX2_fill_17 : decode cX2_fill 17 = .ok (.iastore, 1) := by decide +kernel
theorem dX2_fill_18 : decode cX2_fill 18 = .ok (.iinc 2 1, 3) := by decide +kernel
theorem dX2_fill_21 : decode cX2_fill 21 = .ok (.goto (-19), 3) := by decide +kernel
theorem dX2_fill_24 : decode cX2_fill 24 = .ok (.return_, 1) := by decide +kernel
theorem dX3_init_0 : decode cX3_init 0 = .ok (.aload_n 0, 1) := by decide +kernel
theorem dX3_init_1 : decode cX3_init 1 = .ok (.invokespecial 3, 3) := by decide +kernel
theorem dX3_init_4 : decode cX3_init 4 = .ok (.aload_n 0, 1) := by decide +kernel
theorem dX3_init_5 : decode cX3_init 5 = .ok (.new 9, 3) := by decide +kernel
theorem dX3_init_8 : decode cX3_init 8 = .ok (.dup, 1) := by decide +kernel
theorem dX3_init_9 : decode cX3_init 9 = .ok (.bipush 12, 2) := by decide +kernel
theorem dX3_init_11 : decode cX3_init 11 = .ok (.invokespecial 11, 3) := by decide +kernel
theorem dX3_init_14 : decode cX3_init 14 = .ok (.putfield 14, 3) := by decide +kernel
theorem dX3_init_17 : decode cX3_init 17 = .ok (.return_, 1) := by decide +kernel
theorem dX3_plan_0 : decode cX3_plan 0 = .ok (.aload_n 0, 1) := by decide +kernel
theorem dX3_plan_1 : decode cX3_plan 1 = .ok (.getfield 14, 3) := by decide +kernel
theorem dX3_plan_4 : decode cX3_plan 4 = .ok (.iconst 0, 1) := by decide +kernel
theorem dX3_plan_5 : decode cX3_plan 5 = .ok (.invokevirtual 20, 3) := by decide +kernel
theorem dX3_plan_8 : decode cX3_plan 8 = .ok (.aload_n 0, 1) := by decide +kernel
theorem dX3_plan_9 : decode cX3_plan 9 = .ok (.iload_n 2, 1) := by decide +kernel
theorem dX3_plan_10 : decode cX3_plan 10 = .ok (.putfield 23, 3) := by decide +kernel
theorem dX3_plan_13 : decode cX3_plan 13 = .ok (.aload_n 0, 1) := by decide +kernel
theorem dX3_plan_14 : decode cX3_plan 14 = .ok (.iconst 0, 1) := by decide +kernel
theorem dX3_plan_15 : decode cX3_plan 15 = .ok (.putfield 27, 3) := by decide +kernel
theorem dX3_plan_18 : decode cX3_plan 18 = .ok (.aload_n 0, 1) := by decide +kernel
theorem dX3_plan_19 : decode cX3_plan 19 = .ok (.aload_n 1, 1) := by decide +kernel
theorem dX3_plan_20 : decode cX3_plan 20 = .ok (.aload_n 0, 1) := by decide +kernel
theorem dX3_plan_21 : decode cX3_plan 21 = .ok (.getfield 23, 3) := by decide +kernel
theorem dX3_plan_24 : decode cX3_plan 24 = .ok (.iload_n 3, 1) := by decide +kernel
theorem dX3_plan_25 : decode cX3_plan 25 = .ok (.invokevirtual 30, 3) := by decide +kernel
theorem dX3_plan_28 : decode cX3_plan 28 = .ok (.putfield 36, 3) := by decide +kernel
theorem dX3_plan_31 : decode cX3_plan 31 = .ok (.iconst 1, 1) := by decide +kernel
theorem dX3_plan_32 : decode cX3_plan 32 = .ok (.istore 7, 2) := by decide +kernel
theorem dX3_plan_34 : decode cX3_plan 34 = .ok (.iconst 0, 1) := by decide +kernel
theorem dX3_plan_35 : decode cX3_plan 35 = .ok (.istore 8, 2) := by decide +kernel
theorem dX3_plan_37 : decode cX3_plan 37 = .ok (.iload 8, 2) := by decide +kernel
theorem dX3_plan_39 : decode cX3_plan 39 = .ok (.sipush 200, 3) := by decide +kernel
theorem dX3_plan_42 : decode cX3_plan 42 = .ok (.if_icmp .ge 28, 3) := by decide +kernel
theorem dX3_plan_45 : decode cX3_plan 45 = .ok (.iload 7, 2) := by decide +kernel
theorem dX3_plan_47 : decode cX3_plan 47 = .ok (.ifCond .eq 23, 3) := by decide +kernel
theorem dX3_plan_50 : decode cX3_plan 50 = .ok (.aload_n 0, 1) := by decide +kernel
theorem dX3_plan_51 : decode cX3_plan 51 = .ok (.aload_n 1, 1) := by decide +kernel
theorem dX3_plan_52 : decode cX3_plan 52 = .ok (.iload_n 3, 1) := by decide +kernel
theorem dX3_plan_53 : decode cX3_plan 53 = .ok (.iload 4, 2) := by decide +kernel
theorem dX3_plan_55 : decode cX3_plan 55 = .ok (.iload 5, 2) := by decide +kernel
theorem dX3_plan_57 : decode cX3_plan 57 = .ok (.iload 6, 2) := by decide +kernel
theorem dX3_plan_59 : decode cX3_plan 59 = .ok (.invokevirtual 39, 3) := by decide +kernel
theorem dX3_plan_62 : decode cX3_plan 62 = .ok (.istore 7, 2) := by decide +kernel
theorem dX3_plan_64 : decode cX3_plan 64 = .ok (.iinc 8 1, 3) := by decide +kernel
theorem dX3_plan_67 : decode cX3_plan 67 = .ok (.goto (-30), 3) := by decide +kernel
theorem dX3_plan_70 : decode cX3_plan 70 = .ok (.return_, 1) := by decide +kernel
theorem dX3_planRun_0 : decode cX3_planRun 0 = .ok (.aload_n 0, 1) := by decide +kernel
theorem dX3_planRun_1 : decode cX3_planRun 1 = .ok (.getfield 27, 3) := by decide +kernel
theorem dX3_planRun_4 : decode cX3_planRun 4 = .ok (.istore 6, 2) := by decide +kernel
theorem dX3_planRun_6 : decode cX3_planRun 6 = .ok (.iload_n 2, 1) := by decide +kernel
theorem dX3_planRun_7 : decode cX3_planRun 7 = .ok (.iload_n 3, 1) := by decide +kernel
theorem dX3_planRun_8 : decode cX3_planRun 8 = .ok (.if_icmp .gt 7, 3) := by decide +kernel
theorem dX3_planRun_11 : decode cX3_planRun 11 = .ok (.iconst 1, 1) := by decide +kernel
theorem dX3_planRun_12 : decode cX3_planRun 12 = .ok (.goto 4, 3) := by decide +kernel
theorem dX3_planRun_15 : decode cX3_planRun 15 = .ok (.iconst (-1), 1) := by decide +kernel
theorem dX3_planRun_16 : decode cX3_planRun 16 = .ok (.istore 7, 2) := by decide +kernel
theorem dX3_planRun_18 : decode cX3_planRun 18 = .ok (.iload_n 3, 1) := by decide +kernel
theorem dX3_planRun_19 : decode cX3_planRun 19 = .ok (.iload_n 2, 1) := by decide +kernel
theorem dX3_planRun_20 : decode cX3_planRun 20 = .ok (.isub, 1) := by decide +kernel
theorem dX3_planRun_21 : decode cX3_planRun 21 = .ok (.invokestatic 43, 3) := by decide +kernel
theorem dX3_planRun_24 : decode cX3_planRun 24 = .ok (.iconst 1, 1) := by decide +kernel
theorem dX3_planRun_25 : decode cX3_planRun 25 = .ok (.iadd, 1) := by decide +kernel
theorem dX3_planRun_26 : decode cX3_planRun 26 = .ok (.istore 8, 2) := by decide +kernel
theorem dX3_planRun_28 : decode cX3_planRun 28 = .ok (.iconst 0, 1) := by decide +kernel
theorem dX3_planRun_29 : decode cX3_planRun 29 = .ok (.istore 9, 2) := by decide +kernel
theorem dX3_planRun_31 : decode cX3_planRun 31 = .ok (.iload 9, 2) := by decide +kernel
theorem dX3_planRun_33 : decode cX3_planRun 33 = .ok (.iload 8, 2) := by decide +kernel
theorem dX3_planRun_35 : decode cX3_planRun 35 = .ok (.if_icmp .ge 32, 3) := by decide +kernel
theorem dX3_planRun_38 : decode cX3_planRun 38 = .ok (.aload_n 0, 1) := by decide +kernel
theorem dX3_planRun_39 : decode cX3_planRun 39 = .ok (.getfield 27, 3) := by decide +kernel
theorem dX3_planRun_42 : decode cX3_planRun 42 = .ok (.iload 4, 2) := by decide +kernel
theorem dX3_planRun_44 : decode cX3_planRun 44 = .ok (.if_icmp .ge 23, 3) := by decide +kernel
theorem dX3_planRun_47 : decode cX3_planRun 47 = .ok (.aload_n 0, 1) := by decide +kernel
theorem dX3_planRun_48 : decode cX3_planRun 48 = .ok (.aload_n 1, 1) := by decide +kernel
theorem dX3_planRun_49 : decode cX3_planRun 49 = .ok (.iload_n 2, 1) := by decide +kernel
theorem dX3_planRun_50 : decode cX3_planRun 50 = .ok (.iload 9, 2) := by decide +kernel
theorem dX3_planRun_52 : decode cX3_planRun 52 = .ok (.iload 7, 2) := by decide +kernel
theorem dX3_planRun_54 : decode cX3_planRun 54 = .ok (.imul, 1) := by decide +kernel
theorem dX3_planRun_55 : decode cX3_planRun 55 = .ok (.iadd, 1) := by decide +kernel
theorem dX3_planRun_56 : decode cX3_planRun 56 = .ok (.iload 5, 2) := by decide +kernel
theorem dX3_planRun_58 : decode cX3_planRun 58 = .ok (.invokevirtual 49, 3) := by decide +kernel
theorem dX3_planRun_61 : decode cX3_planRun 61 = .ok (.iinc 9 1, 3) := by decide +kernel
theorem dX3_planRun_64 : decode cX3_planRun 64 = .ok (.goto (-33), 3) := by decide +kernel
theorem dX3_planRun_67 : decode cX3_planRun 67 = .ok (.aload_n 0, 1) := by decide +kernel
theorem dX3_planRun_68 : decode cX3_planRun 68 = .ok (.getfield 27, 3) := by decide +kernel
theorem dX3_planRun_71 : decode cX3_planRun 71 = .ok (.iload 6, 2) := by decide +kernel
theorem dX3_planRun_73 : decode cX3_planRun 73 = .ok (.if_icmp .le 7, 3) := by decide +kernel
theorem dX3_planRun_76 : decode cX3_planRun 76 = .ok (.iconst 1, 1) := by decide +kernel
theorem dX3_planRun_77 : decode cX3_planRun 77 = .ok (.goto 4, 3) := by decide +kernel
theorem dX3_planRun_80 : decode cX3_planRun 80 = .ok (.iconst 0, 1) := by decide +kernel
theorem dX3_planRun_81 : decode cX3_planRun 81 = .ok (.ireturn, 1) := by decide +kernel
theorem dX3_planCell_0 : decode cX3_planCell 0 = .ok (.aload_n 1, 1) := by decide +kernel
theorem dX3_planCell_1 : decode cX3_planCell 1 = .ok (.aload_n 0, 1) := by decide +kernel
theorem dX3_planCell_2 : decode cX3_planCell 2 = .ok (.getfield 23, 3) := by decide +kernel
theorem dX3_planCell_5 : decode cX3_planCell 5 = .ok (.iload_n 2, 1) := by decide +kernel
theorem dX3_planCell_6 : decode cX3_planCell 6 = .ok (.invokevirtual 30, 3) := by decide +kernel
theorem dX3_planCell_9 : decode cX3_planCell 9 = .ok (.istore 4, 2) := by decide +kernel
theorem dX3_planCell_11 : decode cX3_planCell 11 = .ok (.aload_n 0, 1) := by decide +kernel
theorem dX3_planCell_12 : decode cX3_planCell 12 = .ok (.getfield 14, 3) := by decide +kernel
theorem dX3_planCell_15 : decode cX3_planCell 15 = .ok (.iload_n 2, 1) := by decide +kernel
theorem dX3_planCell_16 : decode cX3_planCell 16 = .ok (.invokevirtual 53, 3) := by decide +kernel
theorem dX3_planCell_19 : decode cX3_planCell 19 = .ok (.aload_n 1, 1) := by decide +kernel
theorem dX3_planCell_20 : decode cX3_planCell 20 = .ok (.iload 4, 2) := by decide +kernel
theorem dX3_planCell_22 : decode cX3_planCell 22 = .ok (.iload_n 3, 1) := by decide +kernel
theorem dX3_planCell_23 : decode cX3_planCell 23 = .ok (.invokevirtual 56, 3) := by decide +kernel
theorem dX3_planCell_26 : decode cX3_planCell 26 = .ok (.if_icmp .lt 4, 3) := by decide +kernel
theorem dX3_planCell_29 : decode cX3_planCell 29 = .ok (.return_, 1) := by decide +kernel
theorem dX3_planCell_30 : decode cX3_planCell 30 = .ok (.aload_n 0, 1) := by decide +kernel
theorem dX3_planCell_31 : decode cX3_planCell 31 = .ok (.getfield 14, 3) := by decide +kernel
theorem dX3_planCell_34 : decode cX3_planCell 34 = .ok (.iload_n 2, 1) := by decide +kernel
theorem dX3_planCell_35 : decode cX3_planCell 35 = .ok (.iconst 1, 1) := by decide +kernel
theorem dX3_planCell_36 : decode cX3_planCell 36 = .ok (.invokevirtual 59, 3) := by decide +kernel
theorem dX3_planCell_39 : decode cX3_planCell 39 = .ok (.aload_n 0, 1) := by decide +kernel
theorem dX3_planCell_40 : decode cX3_planCell 40 = .ok (.dup, 1) := by decide +kernel
theorem dX3_planCell_41 : decode cX3_planCell 41 = .ok (.getfield 27, 3) := by decide +kernel
theorem dX3_planCell_44 : decode cX3_planCell 44 = .ok (.iconst 1, 1) := by decide +kernel
theorem dX3_planCell_45 : decode cX3_planCell 45 = .ok (.iadd, 1) := by decide +kernel
theorem dX3_planCell_46 : decode cX3_planCell 46 = .ok (.putfield 27, 3) := by decide +kernel
theorem dX3_planCell_49 : decode cX3_planCell 49 = .ok (.aload_n 0, 1) := by decide +kernel
theorem dX3_planCell_50 : decode cX3_planCell 50 = .ok (.iload 4, 2) := by decide +kernel
theorem dX3_planCell_52 : decode cX3_planCell 52 = .ok (.putfield 36, 3) := by decide +kernel
theorem dX3_planCell_55 : decode cX3_planCell 55 = .ok (.return_, 1) := by decide +kernel
theorem dX3_digPlanned_0 : decode cX3_digPlanned 0 = .ok (.iconst 0, 1) := by decide +kernel
theorem dX3_digPlanned_1 : decode cX3_digPlanned 1 = .ok (.istore_n 2, 1) := by decide +kernel
theorem dX3_digPlanned_2 : decode cX3_digPlanned 2 = .ok (.iload_n 2, 1) := by decide +kernel
theorem dX3_digPlanned_3 : decode cX3_digPlanned 3 = .ok (.aload_n 1, 1) := by decide +kernel
theorem dX3_digPlanned_4 : decode cX3_digPlanned 4 = .ok (.getfield 63, 3) := by decide +kernel
theorem dX3_digPlanned_7 : decode cX3_digPlanned 7 = .ok (.if_icmp .ge 33, 3) := by decide +kernel
theorem dX3_digPlanned_10 : decode cX3_digPlanned 10 = .ok (.aload_n 1, 1) := by decide +kernel
theorem dX3_digPlanned_11 : decode cX3_digPlanned 11 = .ok (.getfield 66, 3) := by decide +kernel
theorem dX3_digPlanned_14 : decode cX3_digPlanned 14 = .ok (.aload_n 1, 1) := by decide +kernel
theorem dX3_digPlanned_15 : decode cX3_digPlanned 15 = .ok (.aload_n 0, 1) := by decide +kernel
theorem dX3_digPlanned_16 : decode cX3_digPlanned 16 = .ok (.getfield 23, 3) := by decide +kernel
theorem dX3_digPlanned_19 : decode cX3_digPlanned 19 = .ok (.iload_n 2, 1) := by decide +kernel
theorem dX3_digPlanned_20 : decode cX3_digPlanned 20 = .ok (.invokevirtual 30, 3) := by decide +kernel
theorem dX3_digPlanned_23 : decode cX3_digPlanned 23 = .ok (.aload_n 0, 1) := by decide +kernel
theorem dX3_digPlanned_24 : decode cX3_digPlanned 24 = .ok (.getfield 14, 3) := by decide +kernel
theorem dX3_digPlanned_27 : decode cX3_digPlanned 27 = .ok (.iload_n 2, 1) := by decide +kernel
theorem dX3_digPlanned_28 : decode cX3_digPlanned 28 = .ok (.invokevirtual 53, 3) := by decide +kernel
theorem dX3_digPlanned_31 : decode cX3_digPlanned 31 = .ok (.invokevirtual 59, 3) := by decide +kernel
theorem dX3_digPlanned_34 : decode cX3_digPlanned 34 = .ok (.iinc 2 1, 3) := by decide +kernel
theorem dX3_digPlanned_37 : decode cX3_digPlanned 37 = .ok (.goto (-35), 3) := by decide +kernel
theorem dX3_digPlanned_40 : decode cX3_digPlanned 40 = .ok (.return_, 1) := by decide +kernel
theorem dX4_init_0 : decode cX4_init 0 = .ok (.aload_n 0, 1) := by decide +kernel
theorem dX4_init_1 : decode cX4_init 1 = .ok (.invokespecial 3, 3) := by decide +kernel
theorem dX4_init_4 : decode cX4_init 4 = .ok (.aload_n 0, 1) := by decide +kernel
theorem dX4_init_5 : decode cX4_init 5 = .ok (.new 9, 3) := by decide +kernel
theorem dX4_init_8 : decode cX4_init 8 = .ok (.dup, 1) := by decide +kernel
theorem dX4_init_9 : decode cX4_init 9 = .ok (.bipush 8, 2) := by decide +kernel
theorem dX4_init_11 : decode cX4_init 11 = .ok (.invokespecial 11, 3) := by decide +kernel
theorem dX4_init_14 : decode cX4_init 14 = .ok (.putfield 14, 3) := by decide +kernel
theorem dX4_init_17 : decode cX4_init 17 = .ok (.aload_n 0, 1) := by decide +kernel
theorem dX4_init_18 : decode cX4_init 18 = .ok (.new 9, 3) := by decide +kernel
theorem dX4_init_21 : decode cX4_init 21 = .ok (.dup, 1) := by decide +kernel
theorem dX4_init_22 : decode cX4_init 22 = .ok (.bipush 8, 2) := by decide +kernel
theorem dX4_init_24 : decode cX4_init 24 = .ok (.invokespecial 11, 3) := by decide +kernel
theorem dX4_init_27 : decode cX4_init 27 = .ok (.putfield 20, 3) := by decide +kernel
theorem dX4_init_30 : decode cX4_init 30 = .ok (.aload_n 0, 1) := by decide +kernel
theorem dX4_init_31 : decode cX4_init 31 = .ok (.new 9, 3) := by decide +kernel
theorem dX4_init_34 : decode cX4_init 34 = .ok (.dup, 1) := by decide +kernel
theorem dX4_init_35 : decode cX4_init 35 = .ok (.bipush 8, 2) := by decide +kernel
theorem dX4_init_37 : decode cX4_init 37 = .ok (.invokespecial 11, 3) := by decide +kernel
theorem dX4_init_40 : decode cX4_init 40 = .ok (.putfield 23, 3) := by decide +kernel
theorem dX4_init_43 : decode cX4_init 43 = .ok (.return_, 1) := by decide +kernel
theorem dX4_has_0 : decode cX4_has 0 = .ok (.iload_n 1, 1) := by decide +kernel
theorem dX4_has_1 : decode cX4_has 1 = .ok (.iconst 0, 1) := by decide +kernel
theorem dX4_has_2 : decode cX4_has 2 = .ok (.aload_n 0, 1) := by decide +kernel
theorem dX4_has_3 : decode cX4_has 3 = .ok (.getfield 26, 3) := by decide +kernel
theorem dX4_has_6 : decode cX4_has 6 = .ok (.iconst 1, 1) := by decide +kernel
theorem dX4_has_7 : decode cX4_has 7 = .ok (.isub, 1) := by decide +kernel
theorem dX4_has_8 : decode cX4_has 8 = .ok (.invokestatic 30, 3) := by decide +kernel
theorem dX4_has_11 : decode cX4_has 11 = .ok (.ireturn, 1) := by decide +kernel
theorem dX4_isFull_0 : decode cX4_isFull 0 = .ok (.aload_n 0, 1) := by decide +kernel
theorem dX4_isFull_1 : decode cX4_isFull 1 = .ok (.getfield 26, 3) := by decide +kernel
theorem dX4_isFull_4 : decode cX4_isFull 4 = .ok (.bipush 8, 2) := by decide +kernel
theorem dX4_isFull_6 : decode cX4_isFull 6 = .ok (.if_icmp .lt 7, 3) := by decide +kernel
theorem dX4_isFull_9 : decode cX4_isFull 9 = .ok (.iconst 1, 1) := by decide +kernel
theorem dX4_isFull_10 : decode cX4_isFull 10 = .ok (.goto 4, 3) := by decide +kernel
theorem dX4_isFull_13 : decode cX4_isFull 13 = .ok (.iconst 0, 1) := by decide +kernel
theorem dX4_isFull_14 : decode cX4_isFull 14 = .ok (.ireturn, 1) := by decide +kernel
theorem dX4_put_0 : decode cX4_put 0 = .ok (.aload_n 0, 1) := by decide +kernel
theorem dX4_put_1 : decode cX4_put 1 = .ok (.getfield 14, 3) := by decide +kernel
theorem dX4_put_4 : decode cX4_put 4 = .ok (.aload_n 0, 1) := by decide +kernel
theorem dX4_put_5 : decode cX4_put 5 = .ok (.getfield 26, 3) := by decide +kernel
theorem dX4_put_8 : decode cX4_put 8 = .ok (.iload_n 1, 1) := by decide +kernel
theorem dX4_put_9 : decode cX4_put 9 = .ok (.invokevirtual 34, 3) := by decide +kernel
theorem dX4_put_12 : decode cX4_put 12 = .ok (.pop, 1) := by decide +kernel
theorem dX4_put_13 : decode cX4_put 13 = .ok (.aload_n 0, 1) := by decide +kernel
theorem dX4_put_14 : decode cX4_put 14 = .ok (.getfield 20, 3) := by decide +kernel
theorem dX4_put_17 : decode cX4_put 17 = .ok (.aload_n 0, 1) := by decide +kernel
theorem dX4_put_18 : decode cX4_put 18 = .ok (.getfield 26, 3) := by decide +kernel
theorem dX4_put_21 : decode cX4_put 21 = .ok (.iload_n 2, 1) := by decide +kernel
theorem dX4_put_22 : decode cX4_put 22 = .ok (.invokevirtual 34, 3) := by decide +kernel
theorem dX4_put_25 : decode cX4_put 25 = .ok (.pop, 1) := by decide +kernel
theorem dX4_put_26 : decode cX4_put 26 = .ok (.aload_n 0, 1) := by decide +kernel
theorem dX4_put_27 : decode cX4_put 27 = .ok (.getfield 23, 3) := by decide +kernel
theorem dX4_put_30 : decode cX4_put 30 = .ok (.aload_n 0, 1) := by decide +kernel
theorem dX4_put_31 : decode cX4_put 31 = .ok (.getfield 26, 3) := by decide +kernel
theorem dX4_put_34 : decode cX4_put 34 = .ok (.iconst 0, 1) := by decide +kernel
theorem dX4_put_35 : decode cX4_put 35 = .ok (.invokevirtual 34, 3) := by decide +kernel
theorem dX4_put_38 : decode cX4_put 38 = .ok (.pop, 1) := by decide +kernel
theorem dX4_put_39 : decode cX4_put 39 = .ok (.aload_n 0, 1) := by decide +kernel
theorem dX4_put_40 : decode cX4_put 40 = .ok (.dup, 1) := by decide +kernel
theorem dX4_put_41 : decode cX4_put 41 = .ok (.getfield 26, 3) := by decide +kernel
theorem dX4_put_44 : decode cX4_put 44 = .ok (.iconst 1, 1) := by decide +kernel
theorem dX4_put_45 : decode cX4_put 45 = .ok (.iadd, 1) := by decide +kernel
theorem dX4_put_46 : decode cX4_put 46 = .ok (.putfield 26, 3) := by decide +kernel
theorem dX4_put_49 : decode cX4_put 49 = .ok (.aload_n 0, 1) := by decide +kernel
theorem dX4_put_50 : decode cX4_put 50 = .ok (.getfield 26, 3) := by decide +kernel
theorem dX4_put_53 : decode cX4_put 53 = .ok (.iconst 1, 1) := by decide +kernel
theorem dX4_put_54 : decode cX4_put 54 = .ok (.isub, 1) := by decide +kernel
theorem dX4_put_55 : decode cX4_put 55 = .ok (.ireturn, 1) := by decide +kernel
theorem dX4_watch_0 : decode cX4_watch 0 = .ok (.iconst 0, 1) := by decide +kernel
theorem dX4_watch_1 : decode cX4_watch 1 = .ok (.istore_n 2, 1) := by decide +kernel
theorem dX4_watch_2 : decode cX4_watch 2 = .ok (.iload_n 2, 1) := by decide +kernel
theorem dX4_watch_3 : decode cX4_watch 3 = .ok (.aload_n 0, 1) := by decide +kernel
theorem dX4_watch_4 : decode cX4_watch 4 = .ok (.getfield 26, 3) := by decide +kernel
theorem dX4_watch_7 : decode cX4_watch 7 = .ok (.if_icmp .ge 44, 3) := by decide +kernel
theorem dX4_watch_10 : decode cX4_watch 10 = .ok (.aload_n 1, 1) := by decide +kernel
theorem dX4_watch_11 : decode cX4_watch 11 = .ok (.getfield 38, 3) := by decide +kernel
theorem dX4_watch_14 : decode cX4_watch 14 = .ok (.aload_n 0, 1) := by decide +kernel
theorem dX4_watch_15 : decode cX4_watch 15 = .ok (.getfield 14, 3) := by decide +kernel
theorem dX4_watch_18 : decode cX4_watch 18 = .ok (.iload_n 2, 1) := by decide +kernel
theorem dX4_watch_19 : decode cX4_watch 19 = .ok (.invokevirtual 43, 3) := by decide +kernel
theorem dX4_watch_22 : decode cX4_watch 22 = .ok (.invokevirtual 43, 3) := by decide +kernel
theorem dX4_watch_25 : decode cX4_watch 25 = .ok (.aload_n 0, 1) := by decide +kernel
theorem dX4_watch_26 : decode cX4_watch 26 = .ok (.getfield 20, 3) := by decide +kernel
theorem dX4_watch_29 : decode cX4_watch 29 = .ok (.iload_n 2, 1) := by decide +kernel
theorem dX4_watch_30 : decode cX4_watch 30 = .ok (.invokevirtual 43, 3) := by decide +kernel
theorem dX4_watch_33 : decode cX4_watch 33 = .ok (.if_icmp .le 12, 3) := by decide +kernel
theorem dX4_watch_36 : decode cX4_watch 36 = .ok (.aload_n 0, 1) := by decide +kernel
theorem dX4_watch_37 : decode cX4_watch 37 = .ok (.getfield 23, 3) := by decide +kernel
theorem dX4_watch_40 : decode cX4_watch 40 = .ok (.iload_n 2, 1) := by decide +kernel
theorem dX4_watch_41 : decode cX4_watch 41 = .ok (.iconst 1, 1) := by decide +kernel
theorem dX4_watch_42 : decode cX4_watch 42 = .ok (.invokevirtual 47, 3) := by decide +kernel
theorem dX4_watch_45 : decode cX4_watch 45 = .ok (.iinc 2 1, 3) := by decide +kernel
theorem dX4_watch_48 : decode cX4_watch 48 = .ok (.goto (-46), 3) := by decide +kernel
theorem dX4_watch_51 : decode cX4_watch 51 = .ok (.return_, 1) := by decide +kernel
theorem dX5_init_0 : decode cX5_init 0 = .ok (.aload_n 0, 1) := by decide +kernel
theorem dX5_init_1 : decode cX5_init 1 = .ok (.invokespecial 3, 3) := by decide +kernel
theorem dX5_init_4 : decode cX5_init 4 = .ok (.aload_n 0, 1) := by decide +kernel
theorem dX5_init_5 : decode cX5_init 5 = .ok (.new 9, 3) := by decide +kernel
theorem dX5_init_8 : decode cX5_init 8 = .ok (.dup, 1) := by decide +kernel
theorem dX5_init_9 : decode cX5_init 9 = .ok (.sipush 720, 3) := by decide +kernel
theorem dX5_init_12 : decode cX5_init 12 = .ok (.invokespecial 11, 3) := by decide +kernel
theorem dX5_init_15 : decode cX5_init 15 = .ok (.putfield 14, 3) := by decide +kernel
theorem dX5_init_18 : decode cX5_init 18 = .ok (.aload_n 0, 1) := by decide +kernel
theorem dX5_init_19 : decode cX5_init 19 = .ok (.new 9, 3) := by decide +kernel
theorem dX5_init_22 : decode cX5_init 22 = .ok (.dup, 1) := by decide +kernel
theorem dX5_init_23 : decode cX5_init 23 = .ok (.bipush 6, 2) := by decide +kernel
theorem dX5_init_25 : decode cX5_init 25 = .ok (.invokespecial 11, 3) := by decide +kernel
theorem dX5_init_28 : decode cX5_init 28 = .ok (.putfield 20, 3) := by decide +kernel
theorem dX5_init_31 : decode cX5_init 31 = .ok (.return_, 1) := by decide +kernel
theorem dX5_start_0 : decode cX5_start 0 = .ok (.aload_n 0, 1) := by decide +kernel
theorem dX5_start_1 : decode cX5_start 1 = .ok (.getfield 20, 3) := by decide +kernel
theorem dX5_start_4 : decode cX5_start 4 = .ok (.iconst 0, 1) := by decide +kernel
theorem dX5_start_5 : decode cX5_start 5 = .ok (.invokevirtual 23, 3) := by decide +kernel
theorem dX5_start_8 : decode cX5_start 8 = .ok (.return_, 1) := by decide +kernel
theorem dX5_has_0 : decode cX5_has 0 = .ok (.iload_n 1, 1) := by decide +kernel
theorem dX5_has_1 : decode cX5_has 1 = .ok (.iconst 0, 1) := by decide +kernel
theorem dX5_has_2 : decode cX5_has 2 = .ok (.iconst 5, 1) := by decide +kernel
theorem dX5_has_3 : decode cX5_has 3 = .ok (.invokestatic 26, 3) := by decide +kernel
theorem dX5_has_6 : decode cX5_has 6 = .ok (.ireturn, 1) := by decide +kernel
theorem dX5_isMissing_0 : decode cX5_isMissing 0 = .ok (.aload_n 0, 1) := by decide +kernel
theorem dX5_isMissing_1 : decode cX5_isMissing 1 = .ok (.getfield 20, 3) := by decide +kernel
theorem dX5_isMissing_4 : decode cX5_isMissing 4 = .ok (.iload_n 1, 1) := by decide +kernel
theorem dX5_isMissing_5 : decode cX5_isMissing 5 = .ok (.invokevirtual 30, 3) := by decide +kernel
theorem dX5_isMissing_8 : decode cX5_isMissing 8 = .ok (.ifCond .ne 7, 3) := by decide +kernel
theorem dX5_isMissing_11 : decode cX5_isMissing 11 = .ok (.iconst 1, 1) := by decide +kernel
theorem dX5_isMissing_12 : decode cX5_isMissing 12 = .ok (.goto 4, 3) := by decide +kernel
theorem dX5_isMissing_15 : decode cX5_isMissing 15 = .ok (.iconst 0, 1) := by decide +kernel
theorem dX5_isMissing_16 : decode cX5_isMissing 16 = .ok (.ireturn, 1) := by decide +kernel
theorem dX5_read_0 : decode cX5_read 0 = .ok (.aload_n 0, 1) := by decide +kernel
theorem dX5_read_1 : decode cX5_read 1 = .ok (.getfield 14, 3) := by decide +kernel
theorem dX5_read_4 : decode cX5_read 4 = .ok (.iload_n 1, 1) := by decide +kernel
theorem dX5_read_5 : decode cX5_read 5 = .ok (.bipush 120, 2) := by decide +kernel
theorem dX5_read_7 : decode cX5_read 7 = .ok (.imul, 1) := by decide +kernel
theorem dX5_read_8 : decode cX5_read 8 = .ok (.iload_n 2, 1) := by decide +kernel
theorem dX5_read_9 : decode cX5_read 9 = .ok (.iadd, 1) := by decide +kernel
theorem dX5_read_10 : decode cX5_read 10 = .ok (.invokevirtual 30, 3) := by decide +kernel
theorem dX5_read_13 : decode cX5_read 13 = .ok (.ireturn, 1) := by decide +kernel
theorem dX5_write_0 : decode cX5_write 0 = .ok (.aload_n 0, 1) := by decide +kernel
theorem dX5_write_1 : decode cX5_write 1 = .ok (.getfield 14, 3) := by decide +kernel
theorem dX5_write_4 : decode cX5_write 4 = .ok (.iload_n 1, 1) := by decide +kernel
theorem dX5_write_5 : decode cX5_write 5 = .ok (.bipush 120, 2) := by decide +kernel
theorem dX5_write_7 : decode cX5_write 7 = .ok (.imul, 1) := by decide +kernel
theorem dX5_write_8 : decode cX5_write 8 = .ok (.iload_n 2, 1) := by decide +kernel
theorem dX5_write_9 : decode cX5_write 9 = .ok (.iadd, 1) := by decide +kernel
theorem dX5_write_10 : decode cX5_write 10 = .ok (.iload_n 3, 1) := by decide +kernel
theorem dX5_write_11 : decode cX5_write 11 = .ok (.invokevirtual 34, 3) := by decide +kernel
theorem dX5_write_14 : decode cX5_write 14 = .ok (.pop, 1) := by decide +kernel
theorem dX5_write_15 : decode cX5_write 15 = .ok (.return_, 1) := by decide +kernel
theorem dX5_knows_0 : decode cX5_knows 0 = .ok (.aload_n 0, 1) := by decide +kernel
theorem dX5_knows_1 : decode cX5_knows 1 = .ok (.iload_n 1, 1) := by decide +kernel
theorem dX5_knows_2 : decode cX5_knows 2 = .ok (.iload_n 2, 1) := by decide +kernel
theorem dX5_knows_3 : decode cX5_knows 3 = .ok (.invokevirtual 38, 3) := by decide +kernel
theorem dX5_knows_6 : decode cX5_knows 6 = .ok (.bipush (-4), 2) := by decide +kernel
theorem dX5_knows_8 : decode cX5_knows 8 = .ok (.if_icmp .eq 7, 3) := by decide +kernel
theorem dX5_knows_11 : decode cX5_knows 11 = .ok (.iconst 1, 1) := by decide +kernel
theorem dX5_knows_12 : decode cX5_knows 12 = .ok (.goto 4, 3) := by decide +kernel
theorem dX5_knows_15 : decode cX5_knows 15 = .ok (.iconst 0, 1) := by decide +kernel
theorem dX5_knows_16 : decode cX5_knows 16 = .ok (.ireturn, 1) := by decide +kernel
theorem dX5_bothKnow_0 : decode cX5_bothKnow 0 = .ok (.aload_n 0, 1) := by decide +kernel
theorem dX5_bothKnow_1 : decode cX5_bothKnow 1 = .ok (.iload_n 1, 1) := by decide +kernel
theorem dX5_bothKnow_2 : decode cX5_bothKnow 2 = .ok (.iload_n 3, 1) := by decide +kernel
theorem dX5_bothKnow_3 : decode cX5_bothKnow 3 = .ok (.invokevirtual 41, 3) := by decide +kernel
theorem dX5_bothKnow_6 : decode cX5_bothKnow 6 = .ok (.ifCond .eq 16, 3) := by decide +kernel
theorem dX5_bothKnow_9 : decode cX5_bothKnow 9 = .ok (.aload_n 0, 1) := by decide +kernel
theorem dX5_bothKnow_10 : decode cX5_bothKnow 10 = .ok (.iload_n 2, 1) := by decide +kernel
theorem dX5_bothKnow_11 : decode cX5_bothKnow 11 = .ok (.iload_n 3, 1) := by decide +kernel
theorem dX5_bothKnow_12 : decode cX5_bothKnow 12 = .ok (.invokevirtual 41, 3) := by decide +kernel
theorem dX5_bothKnow_15 : decode cX5_bothKnow 15 = .ok (.ifCond .eq 7, 3) := by decide +kernel
theorem dX5_bothKnow_18 : decode cX5_bothKnow 18 = .ok (.iconst 1, 1) := by decide +kernel
theorem dX5_bothKnow_19 : decode cX5_bothKnow 19 = .ok (.goto 4, 3) := by decide +kernel
theorem dX5_bothKnow_22 : decode cX5_bothKnow 22 = .ok (.iconst 0, 1) := by decide +kernel
theorem dX5_bothKnow_23 : decode cX5_bothKnow 23 = .ok (.ireturn, 1) := by decide +kernel
theorem dX5_take_0 : decode cX5_take 0 = .ok (.aload_n 0, 1) := by decide +kernel
theorem dX5_take_1 : decode cX5_take 1 = .ok (.getfield 20, 3) := by decide +kernel
theorem dX5_take_4 : decode cX5_take 4 = .ok (.iload_n 1, 1) := by decide +kernel
theorem dX5_take_5 : decode cX5_take 5 = .ok (.iconst 1, 1) := by decide +kernel
theorem dX5_take_6 : decode cX5_take 6 = .ok (.invokevirtual 34, 3) := by decide +kernel
theorem dX5_take_9 : decode cX5_take 9 = .ok (.pop, 1) := by decide +kernel
theorem dX5_take_10 : decode cX5_take 10 = .ok (.iconst 0, 1) := by decide +kernel
theorem dX5_take_11 : decode cX5_take 11 = .ok (.istore_n 3, 1) := by decide +kernel
theorem dX5_take_12 : decode cX5_take 12 = .ok (.iload_n 3, 1) := by decide +kernel
theorem dX5_take_13 : decode cX5_take 13 = .ok (.aload_n 2, 1) := by decide +kernel
theorem dX5_take_14 : decode cX5_take 14 = .ok (.invokevirtual 45, 3) := by decide +kernel
theorem dX5_take_17 : decode cX5_take 17 = .ok (.if_icmp .ge 23, 3) := by decide +kernel
theorem dX5_take_20 : decode cX5_take 20 = .ok (.aload_n 0, 1) := by decide +kernel
theorem dX5_take_21 : decode cX5_take 21 = .ok (.iload_n 1, 1) := by decide +kernel
theorem dX5_take_22 : decode cX5_take 22 = .ok (.iload_n 3, 1) := by decide +kernel
theorem dX5_take_23 : decode cX5_take 23 = .ok (.aload_n 2, 1) := by decide +kernel
theorem dX5_take_24 : decode cX5_take 24 = .ok (.getfield 51, 3) := by decide +kernel
theorem dX5_take_27 : decode cX5_take 27 = .ok (.iload_n 3, 1) := by decide +kernel
theorem dX5_take_28 : decode cX5_take 28 = .ok (.invokevirtual 30, 3) := by decide +kernel
theorem dX5_take_31 : decode cX5_take 31 = .ok (.invokevirtual 54, 3) := by decide +kernel
theorem dX5_take_34 : decode cX5_take 34 = .ok (.iinc 3 1, 3) := by decide +kernel
theorem dX5_take_37 : decode cX5_take 37 = .ok (.goto (-25), 3) := by decide +kernel
theorem dX5_take_40 : decode cX5_take 40 = .ok (.return_, 1) := by decide +kernel
theorem dX5_makeGap_0 : decode cX5_makeGap 0 = .ok (.aload_n 0, 1) := by decide +kernel
theorem dX5_makeGap_1 : decode cX5_makeGap 1 = .ok (.iload_n 1, 1) := by decide +kernel
theorem dX5_makeGap_2 : decode cX5_makeGap 2 = .ok (.iload_n 2, 1) := by decide +kernel
theorem dX5_makeGap_3 : decode cX5_makeGap 3 = .ok (.invokevirtual 41, 3) := by decide +kernel
theorem dX5_makeGap_6 : decode cX5_makeGap 6 = .ok (.istore_n 3, 1) := by decide +kernel
theorem dX5_makeGap_7 : decode cX5_makeGap 7 = .ok (.aload_n 0, 1) := by decide +kernel
theorem dX5_makeGap_8 : decode cX5_makeGap 8 = .ok (.iload_n 1, 1) := by decide +kernel
theorem dX5_makeGap_9 : decode cX5_makeGap 9 = .ok (.iload_n 2, 1) := by decide +kernel
theorem dX5_makeGap_10 : decode cX5_makeGap 10 = .ok (.bipush (-4), 2) := by decide +kernel
theorem dX5_makeGap_12 : decode cX5_makeGap 12 = .ok (.invokevirtual 54, 3) := by decide +kernel
theorem dX5_makeGap_15 : decode cX5_makeGap 15 = .ok (.iload_n 3, 1) := by decide +kernel
theorem dX5_makeGap_16 : decode cX5_makeGap 16 = .ok (.ireturn, 1) := by decide +kernel
theorem dX5_fillGaps_0 : decode cX5_fillGaps 0 = .ok (.iconst 0, 1) := by decide +kernel
theorem dX5_fillGaps_1 : decode cX5_fillGaps 1 = .ok (.istore 4, 2) := by decide +kernel
theorem dX5_fillGaps_3 : decode cX5_fillGaps 3 = .ok (.iconst 0, 1) := by decide +kernel
theorem dX5_fillGaps_4 : decode cX5_fillGaps 4 = .ok (.istore 5, 2) := by decide +kernel
theorem dX5_fillGaps_6 : decode cX5_fillGaps 6 = .ok (.iload 5, 2) := by decide +kernel
theorem dX5_fillGaps_8 : decode cX5_fillGaps 8 = .ok (.iload_n 3, 1) := by decide +kernel
theorem dX5_fillGaps_9 : decode cX5_fillGaps 9 = .ok (.if_icmp .ge 46, 3) := by decide +kernel
theorem dX5_fillGaps_12 : decode cX5_fillGaps 12 = .ok (.aload_n 0, 1) := by decide +kernel
theorem dX5_fillGaps_13 : decode cX5_fillGaps 13 = .ok (.iload_n 1, 1) := by decide +kernel
theorem dX5_fillGaps_14 : decode cX5_fillGaps 14 = .ok (.iload 5, 2) := by decide +kernel
theorem dX5_fillGaps_16 : decode cX5_fillGaps 16 = .ok (.invokevirtual 41, 3) := by decide +kernel
theorem dX5_fillGaps_19 : decode cX5_fillGaps 19 = .ok (.ifCond .ne 30, 3) := by decide +kernel
theorem dX5_fillGaps_22 : decode cX5_fillGaps 22 = .ok (.aload_n 0, 1) := by decide +kernel
theorem dX5_fillGaps_23 : decode cX5_fillGaps 23 = .ok (.iload_n 2, 1) := by decide +kernel
theorem dX5_fillGaps_24 : decode cX5_fillGaps 24 = .ok (.iload 5, 2) := by decide +kernel
theorem dX5_fillGaps_26 : decode cX5_fillGaps 26 = .ok (.invokevirtual 41, 3) := by decide +kernel
theorem dX5_fillGaps_29 : decode cX5_fillGaps 29 = .ok (.ifCond .eq 20, 3) := by decide +kernel
theorem dX5_fillGaps_32 : decode cX5_fillGaps 32 = .ok (.aload_n 0, 1) := by decide +kernel
theorem dX5_fillGaps_33 : decode cX5_fillGaps 33 = .ok (.iload_n 1, 1) := by decide +kernel
theorem dX5_fillGaps_34 : decode cX5_fillGaps 34 = .ok (.iload 5, 2) := by decide +kernel
theorem dX5_fillGaps_36 : decode cX5_fillGaps 36 = .ok (.aload_n 0, 1) := by decide +kernel
theorem dX5_fillGaps_37 : decode cX5_fillGaps 37 = .ok (.iload_n 2, 1) := by decide +kernel
theorem dX5_fillGaps_38 : decode cX5_fillGaps 38 = .ok (.iload 5, 2) := by decide +kernel
theorem dX5_fillGaps_40 : decode cX5_fillGaps 40 = .ok (.invokevirtual 38, 3) := by decide +kernel
theorem dX5_fillGaps_43 : decode cX5_fillGaps 43 = .ok (.invokevirtual 54, 3) := by decide +kernel
theorem dX5_fillGaps_46 : decode cX5_fillGaps 46 = .ok (.iinc 4 1, 3) := by decide +kernel
theorem dX5_fillGaps_49 : decode cX5_fillGaps 49 = .ok (.iinc 5 1, 3) := by decide +kernel
theorem dX5_fillGaps_52 : decode cX5_fillGaps 52 = .ok (.goto (-46), 3) := by decide +kernel
theorem dX5_fillGaps_55 : decode cX5_fillGaps 55 = .ok (.iload 4, 2) := by decide +kernel
theorem dX5_fillGaps_57 : decode cX5_fillGaps 57 = .ok (.ireturn, 1) := by decide +kernel
theorem dX5_volume_0 : decode cX5_volume 0 = .ok (.iconst 0, 1) := by decide +kernel
theorem dX5_volume_1 : decode cX5_volume 1 = .ok (.istore 4, 2) := by decide +kernel
theorem dX5_volume_3 : decode cX5_volume 3 = .ok (.iconst 0, 1) := by decide +kernel
theorem dX5_volume_4 : decode cX5_volume 4 = .ok (.istore 5, 2) := by decide +kernel
theorem dX5_volume_6 : decode cX5_volume 6 = .ok (.iload 5, 2) := by decide +kernel
theorem dX5_volume_8 : decode cX5_volume 8 = .ok (.iload_n 3, 1) := by decide +kernel
theorem dX5_volume_9 : decode cX5_volume 9 = .ok (.if_icmp .ge 40, 3) := by decide +kernel
theorem dX5_volume_12 : decode cX5_volume 12 = .ok (.aload_n 0, 1) := by decide +kernel
theorem dX5_volume_13 : decode cX5_volume 13 = .ok (.iload_n 1, 1) := by decide +kernel
theorem dX5_volume_14 : decode cX5_volume 14 = .ok (.iload_n 2, 1) := by decide +kernel
theorem dX5_volume_15 : decode cX5_volume 15 = .ok (.iload 5, 2) := by decide +kernel
theorem dX5_volume_17 : decode cX5_volume 17 = .ok (.invokevirtual 58, 3) := by decide +kernel
theorem dX5_volume_20 : decode cX5_volume 20 = .ok (.ifCond .eq 23, 3) := by decide +kernel
theorem dX5_volume_23 : decode cX5_volume 23 = .ok (.iload 4, 2) := by decide +kernel
theorem dX5_volume_25 : decode cX5_volume 25 = .ok (.aload_n 0, 1) := by decide +kernel
theorem dX5_volume_26 : decode cX5_volume 26 = .ok (.iload_n 2, 1) := by decide +kernel
theorem dX5_volume_27 : decode cX5_volume 27 = .ok (.iload 5, 2) := by decide +kernel
theorem dX5_volume_29 : decode cX5_volume 29 = .ok (.invokevirtual 38, 3) := by decide +kernel
theorem dX5_volume_32 : decode cX5_volume 32 = .ok (.aload_n 0, 1) := by decide +kernel
theorem dX5_volume_33 : decode cX5_volume 33 = .ok (.iload_n 1, 1) := by decide +kernel
theorem dX5_volume_34 : decode cX5_volume 34 = .ok (.iload 5, 2) := by decide +kernel
theorem dX5_volume_36 : decode cX5_volume 36 = .ok (.invokevirtual 38, 3) := by decide +kernel
theorem dX5_volume_39 : decode cX5_volume 39 = .ok (.isub, 1) := by decide +kernel
theorem dX5_volume_40 : decode cX5_volume 40 = .ok (.iadd, 1) := by decide +kernel
theorem dX5_volume_41 : decode cX5_volume 41 = .ok (.istore 4, 2) := by decide +kernel
theorem dX5_volume_43 : decode cX5_volume 43 = .ok (.iinc 5 1, 3) := by decide +kernel
theorem dX5_volume_46 : decode cX5_volume 46 = .ok (.goto (-40), 3) := by decide +kernel
theorem dX5_volume_49 : decode cX5_volume 49 = .ok (.iload 4, 2) := by decide +kernel
theorem dX5_volume_51 : decode cX5_volume 51 = .ok (.ireturn, 1) := by decide +kernel
theorem dX5_pay_0 : decode cX5_pay 0 = .ok (.iconst 0, 1) := by decide +kernel
theorem dX5_pay_1 : decode cX5_pay 1 = .ok (.istore 5, 2) := by decide +kernel
theorem dX5_pay_3 : decode cX5_pay 3 = .ok (.iconst 0, 1) := by decide +kernel
theorem dX5_pay_4 : decode cX5_pay 4 = .ok (.istore 6, 2) := by decide +kernel
theorem dX5_pay_6 : decode cX5_pay 6 = .ok (.iload 6, 2) := by decide +kernel
theorem dX5_pay_8 : decode cX5_pay 8 = .ok (.aload_n 3, 1) := by decide +kernel
theorem dX5_pay_9 : decode cX5_pay 9 = .ok (.invokevirtual 45, 3) := by decide +kernel
theorem dX5_pay_12 : decode cX5_pay 12 = .ok (.if_icmp .ge 80, 3) := by decide +kernel
theorem dX5_pay_15 : decode cX5_pay 15 = .ok (.aload_n 3, 1) := by decide +kernel
theorem dX5_pay_16 : decode cX5_pay 16 = .ok (.getfield 61, 3) := by decide +kernel
theorem dX5_pay_19 : decode cX5_pay 19 = .ok (.iload 6, 2) := by decide +kernel
theorem dX5_pay_21 : decode cX5_pay 21 = .ok (.invokevirtual 30, 3) := by decide +kernel
theorem dX5_pay_24 : decode cX5_pay 24 = .ok (.istore 7, 2) := by decide +kernel
theorem dX5_pay_26 : decode cX5_pay 26 = .ok (.iload 7, 2) := by decide +kernel
theorem dX5_pay_28 : decode cX5_pay 28 = .ok (.ifCond .le 58, 3) := by decide +kernel
theorem dX5_pay_31 : decode cX5_pay 31 = .ok (.aload_n 0, 1) := by decide +kernel
theorem dX5_pay_32 : decode cX5_pay 32 = .ok (.iload_n 1, 1) := by decide +kernel
theorem dX5_pay_33 : decode cX5_pay 33 = .ok (.iload_n 2, 1) := by decide +kernel
theorem dX5_pay_34 : decode cX5_pay 34 = .ok (.iload 6, 2) := by decide +kernel
theorem dX5_pay_36 : decode cX5_pay 36 = .ok (.invokevirtual 58, 3) := by decide +kernel
theorem dX5_pay_39 : decode cX5_pay 39 = .ok (.ifCond .eq 47, 3) := by decide +kernel
theorem dX5_pay_42 : decode cX5_pay 42 = .ok (.aload_n 0, 1) := by decide +kernel
theorem dX5_pay_43 : decode cX5_pay 43 = .ok (.iload_n 2, 1) := by decide +kernel
theorem dX5_pay_44 : decode cX5_pay 44 = .ok (.iload 6, 2) := by decide +kernel
theorem dX5_pay_46 : decode cX5_pay 46 = .ok (.invokevirtual 38, 3) := by decide +kernel
theorem dX5_pay_49 : decode cX5_pay 49 = .ok (.iload 7, 2) := by decide +kernel
theorem dX5_pay_51 : decode cX5_pay 51 = .ok (.if_icmp .lt 35, 3) := by decide +kernel
theorem dX5_pay_54 : decode cX5_pay 54 = .ok (.iload 5, 2) := by decide +kernel
theorem dX5_pay_56 : decode cX5_pay 56 = .ok (.iconst 0, 1) := by decide +kernel
theorem dX5_pay_57 : decode cX5_pay 57 = .ok (.aload_n 0, 1) := by decide +kernel
theorem dX5_pay_58 : decode cX5_pay 58 = .ok (.iload_n 2, 1) := by decide +kernel
theorem dX5_pay_59 : decode cX5_pay 59 = .ok (.iload 6, 2) := by decide +kernel
theorem dX5_pay_61 : decode cX5_pay 61 = .ok (.invokevirtual 38, 3) := by decide +kernel
theorem dX5_pay_64 : decode cX5_pay 64 = .ok (.iload 7, 2) := by decide +kernel
theorem dX5_pay_66 : decode cX5_pay 66 = .ok (.iload 4, 2) := by decide +kernel
theorem dX5_pay_68 : decode cX5_pay 68 = .ok (.iadd, 1) := by decide +kernel
theorem dX5_pay_69 : decode cX5_pay 69 = .ok (.invokestatic 64, 3) := by decide +kernel
theorem dX5_pay_72 : decode cX5_pay 72 = .ok (.aload_n 0, 1) := by decide +kernel
theorem dX5_pay_73 : decode cX5_pay 73 = .ok (.iload_n 1, 1) := by decide +kernel
theorem dX5_pay_74 : decode cX5_pay 74 = .ok (.iload 6, 2) := by decide +kernel
theorem dX5_pay_76 : decode cX5_pay 76 = .ok (.invokevirtual 38, 3) := by decide +kernel
theorem dX5_pay_79 : decode cX5_pay 79 = .ok (.isub, 1) := by decide +kernel
theorem dX5_pay_80 : decode cX5_pay 80 = .ok (.invokestatic 69, 3) := by decide +kernel
theorem dX5_pay_83 : decode cX5_pay 83 = .ok (.iadd, 1) := by decide +kernel
theorem dX5_pay_84 : decode cX5_pay 84 = .ok (.istore 5, 2) := by decide +kernel
theorem dX5_pay_86 : decode cX5_pay 86 = .ok (.iinc 6 1, 3) := by decide +kernel
theorem dX5_pay_89 : decode cX5_pay 89 = .ok (.goto (-83), 3) := by decide +kernel
theorem dX5_pay_92 : decode cX5_pay 92 = .ok (.iload 5, 2) := by decide +kernel
theorem dX5_pay_94 : decode cX5_pay 94 = .ok (.ireturn, 1) := by decide +kernel
theorem dX5_unknown_0 : decode cX5_unknown 0 = .ok (.iconst 0, 1) := by decide +kernel
theorem dX5_unknown_1 : decode cX5_unknown 1 = .ok (.istore 4, 2) := by decide +kernel
theorem dX5_unknown_3 : decode cX5_unknown 3 = .ok (.iconst 0, 1) := by decide +kernel
theorem dX5_unknown_4 : decode cX5_unknown 4 = .ok (.istore 5, 2) := by decide +kernel
theorem dX5_unknown_6 : decode cX5_unknown 6 = .ok (.iload 5, 2) := by decide +kernel
theorem dX5_unknown_8 : decode cX5_unknown 8 = .ok (.aload_n 3, 1) := by decide +kernel
theorem dX5_unknown_9 : decode cX5_unknown 9 = .ok (.invokevirtual 45, 3) := by decide +kernel
theorem dX5_unknown_12 : decode cX5_unknown 12 = .ok (.if_icmp .ge 35, 3) := by decide +kernel
theorem dX5_unknown_15 : decode cX5_unknown 15 = .ok (.aload_n 3, 1) := by decide +kernel
theorem dX5_unknown_16 : decode cX5_unknown 16 = .ok (.getfield 61, 3) := by decide +kernel
theorem dX5_unknown_19 : decode cX5_unknown 19 = .ok (.iload 5, 2) := by decide +kernel
theorem dX5_unknown_21 : decode cX5_unknown 21 = .ok (.invokevirtual 30, 3) := by decide +kernel
theorem dX5_unknown_24 : decode cX5_unknown 24 = .ok (.ifCond .le 17, 3) := by decide +kernel
theorem dX5_unknown_27 : decode cX5_unknown 27 = .ok (.aload_n 0, 1) := by decide +kernel
theorem dX5_unknown_28 : decode cX5_unknown 28 = .ok (.iload_n 1, 1) := by decide +kernel
theorem dX5_unknown_29 : decode cX5_unknown 29 = .ok (.iload_n 2, 1) := by decide +kernel
theorem dX5_unknown_30 : decode cX5_unknown 30 = .ok (.iload 5, 2) := by decide +kernel
theorem dX5_unknown_32 : decode cX5_unknown 32 = .ok (.invokevirtual 58, 3) := by decide +kernel
theorem dX5_unknown_35 : decode cX5_unknown 35 = .ok (.ifCond .ne 6, 3) := by decide +kernel
theorem dX5_unknown_38 : decode cX5_unknown 38 = .ok (.iinc 4 1, 3) := by decide +kernel
theorem dX5_unknown_41 : decode cX5_unknown 41 = .ok (.iinc 5 1, 3) := by decide +kernel
theorem dX5_unknown_44 : decode cX5_unknown 44 = .ok (.goto (-38), 3) := by decide +kernel
theorem dX5_unknown_47 : decode cX5_unknown 47 = .ok (.iload 4, 2) := by decide +kernel
theorem dX5_unknown_49 : decode cX5_unknown 49 = .ok (.ireturn, 1) := by decide +kernel
theorem dX6_init_0 : decode cX6_init 0 = .ok (.aload_n 0, 1) := by decide +kernel
theorem dX6_init_1 : decode cX6_init 1 = .ok (.invokespecial 3, 3) := by decide +kernel
theorem dX6_init_4 : decode cX6_init 4 = .ok (.aload_n 0, 1) := by decide +kernel
theorem dX6_init_5 : decode cX6_init 5 = .ok (.new 9, 3) := by decide +kernel
theorem dX6_init_8 : decode cX6_init 8 = .ok (.dup, 1) := by decide +kernel
theorem dX6_init_9 : decode cX6_init 9 = .ok (.bipush 31, 2) := by decide +kernel
theorem dX6_init_11 : decode cX6_init 11 = .ok (.invokespecial 11, 3) := by decide +kernel
theorem dX6_init_14 : decode cX6_init 14 = .ok (.putfield 14, 3) := by decide +kernel
theorem dX6_init_17 : decode cX6_init 17 = .ok (.return_, 1) := by decide +kernel
theorem dX6_start_0 : decode cX6_start 0 = .ok (.iconst 0, 1) := by decide +kernel
theorem dX6_start_1 : decode cX6_start 1 = .ok (.istore_n 1, 1) := by decide +kernel
theorem dX6_start_2 : decode cX6_start 2 = .ok (.iload_n 1, 1) := by decide +kernel
theorem dX6_start_3 : decode cX6_start 3 = .ok (.bipush 30, 2) := by decide +kernel
theorem dX6_start_5 : decode cX6_start 5 = .ok (.if_icmp .gt 19, 3) := by decide +kernel
theorem dX6_start_8 : decode cX6_start 8 = .ok (.aload_n 0, 1) := by decide +kernel
theorem dX6_start_9 : decode cX6_start 9 = .ok (.getfield 14, 3) := by decide +kernel
theorem dX6_start_12 : decode cX6_start 12 = .ok (.iload_n 1, 1) := by decide +kernel
theorem dX6_start_13 : decode cX6_start 13 = .ok (.iload_n 1, 1) := by decide +kernel
theorem dX6_start_14 : decode cX6_start 14 = .ok (.invokevirtual 20, 3) := by decide +kernel
theorem dX6_start_17 : decode cX6_start 17 = .ok (.pop, 1) := by decide +kernel
theorem dX6_start_18 : decode cX6_start 18 = .ok (.iinc 1 1, 3) := by decide +kernel
theorem dX6_start_21 : decode cX6_start 21 = .ok (.goto (-19), 3) := by decide +kernel
theorem dX6_start_24 : decode cX6_start 24 = .ok (.return_, 1) := by decide +kernel
theorem dX6_setTable_0 : decode cX6_setTable 0 = .ok (.aload_n 0, 1) := by decide +kernel
theorem dX6_setTable_1 : decode cX6_setTable 1 = .ok (.getfield 14, 3) := by decide +kernel
theorem dX6_setTable_4 : decode cX6_setTable 4 = .ok (.iload_n 1, 1) := by decide +kernel
theorem dX6_setTable_5 : decode cX6_setTable 5 = .ok (.invokevirtual 24, 3) := by decide +kernel
theorem dX6_setTable_8 : decode cX6_setTable 8 = .ok (.istore_n 3, 1) := by decide +kernel
theorem dX6_setTable_9 : decode cX6_setTable 9 = .ok (.iconst 1, 1) := by decide +kernel
theorem dX6_setTable_10 : decode cX6_setTable 10 = .ok (.istore 4, 2) := by decide +kernel
theorem dX6_setTable_12 : decode cX6_setTable 12 = .ok (.iload 4, 2) := by decide +kernel
theorem dX6_setTable_14 : decode cX6_setTable 14 = .ok (.iload_n 1, 1) := by decide +kernel
theorem dX6_setTable_15 : decode cX6_setTable 15 = .ok (.if_icmp .ge 32, 3) := by decide +kernel
theorem dX6_setTable_18 : decode cX6_setTable 18 = .ok (.aload_n 0, 1) := by decide +kernel
theorem dX6_setTable_19 : decode cX6_setTable 19 = .ok (.getfield 14, 3) := by decide +kernel
theorem dX6_setTable_22 : decode cX6_setTable 22 = .ok (.iload 4, 2) := by decide +kernel
theorem dX6_setTable_24 : decode cX6_setTable 24 = .ok (.iload_n 2, 1) := by decide +kernel
theorem dX6_setTable_25 : decode cX6_setTable 25 = .ok (.aload_n 0, 1) := by decide +kernel
theorem dX6_setTable_26 : decode cX6_setTable 26 = .ok (.getfield 14, 3) := by decide +kernel
theorem dX6_setTable_29 : decode cX6_setTable 29 = .ok (.iload 4, 2) := by decide +kernel
theorem dX6_setTable_31 : decode cX6_setTable 31 = .ok (.invokevirtual 24, 3) := by decide +kernel
theorem dX6_setTable_34 : decode cX6_setTable 34 = .ok (.invokestatic 28, 3) := by decide +kernel
theorem dX6_setTable_37 : decode cX6_setTable 37 = .ok (.invokevirtual 20, 3) := by decide +kernel
theorem dX6_setTable_40 : decode cX6_setTable 40 = .ok (.pop, 1) := by decide +kernel
theorem dX6_setTable_41 : decode cX6_setTable 41 = .ok (.iinc 4 1, 3) := by decide +kernel
theorem dX6_setTable_44 : decode cX6_setTable 44 = .ok (.goto (-32), 3) := by decide +kernel
theorem dX6_setTable_47 : decode cX6_setTable 47 = .ok (.aload_n 0, 1) := by decide +kernel
theorem dX6_setTable_48 : decode cX6_setTable 48 = .ok (.getfield 14, 3) := by decide +kernel
theorem dX6_setTable_51 : decode cX6_setTable 51 = .ok (.iload_n 1, 1) := by decide +kernel
theorem dX6_setTable_52 : decode cX6_setTable 52 = .ok (.iload_n 2, 1) := by decide +kernel
theorem dX6_setTable_53 : decode cX6_setTable 53 = .ok (.invokevirtual 20, 3) := by decide +kernel
theorem dX6_setTable_56 : decode cX6_setTable 56 = .ok (.pop, 1) := by decide +kernel
theorem dX6_setTable_57 : decode cX6_setTable 57 = .ok (.iload_n 1, 1) := by decide +kernel
theorem dX6_setTable_58 : decode cX6_setTable 58 = .ok (.iconst 1, 1) := by decide +kernel
theorem dX6_setTable_59 : decode cX6_setTable 59 = .ok (.iadd, 1) := by decide +kernel
theorem dX6_setTable_60 : decode cX6_setTable 60 = .ok (.istore 4, 2) := by decide +kernel
theorem dX6_setTable_62 : decode cX6_setTable 62 = .ok (.iload 4, 2) := by decide +kernel
theorem dX6_setTable_64 : decode cX6_setTable 64 = .ok (.bipush 30, 2) := by decide +kernel
theorem dX6_setTable_66 : decode cX6_setTable 66 = .ok (.if_icmp .gt 32, 3) := by decide +kernel
theorem dX6_setTable_69 : decode cX6_setTable 69 = .ok (.aload_n 0, 1) := by decide +kernel
theorem dX6_setTable_70 : decode cX6_setTable 70 = .ok (.getfield 14, 3) := by decide +kernel
theorem dX6_setTable_73 : decode cX6_setTable 73 = .ok (.iload 4, 2) := by decide +kernel
theorem dX6_setTable_75 : decode cX6_setTable 75 = .ok (.iload_n 2, 1) := by decide +kernel
theorem dX6_setTable_76 : decode cX6_setTable 76 = .ok (.aload_n 0, 1) := by decide +kernel
theorem dX6_setTable_77 : decode cX6_setTable 77 = .ok (.getfield 14, 3) := by decide +kernel
theorem dX6_setTable_80 : decode cX6_setTable 80 = .ok (.iload 4, 2) := by decide +kernel
theorem dX6_setTable_82 : decode cX6_setTable 82 = .ok (.invokevirtual 24, 3) := by decide +kernel
theorem dX6_setTable_85 : decode cX6_setTable 85 = .ok (.invokestatic 33, 3) := by decide +kernel
theorem dX6_setTable_88 : decode cX6_setTable 88 = .ok (.invokevirtual 20, 3) := by decide +kernel
theorem dX6_setTable_91 : decode cX6_setTable 91 = .ok (.pop, 1) := by decide +kernel
theorem dX6_setTable_92 : decode cX6_setTable 92 = .ok (.iinc 4 1, 3) := by decide +kernel
theorem dX6_setTable_95 : decode cX6_setTable 95 = .ok (.goto (-33), 3) := by decide +kernel
theorem dX6_setTable_98 : decode cX6_setTable 98 = .ok (.iload_n 3, 1) := by decide +kernel
theorem dX6_setTable_99 : decode cX6_setTable 99 = .ok (.ireturn, 1) := by decide +kernel
theorem dX6_bestMinutes_0 : decode cX6_bestMinutes 0 = .ok (.bipush 120, 2) := by decide +kernel
theorem dX6_bestMinutes_2 : decode cX6_bestMinutes 2 = .ok (.iload_n 1, 1) := by decide +kernel
theorem dX6_bestMinutes_3 : decode cX6_bestMinutes 3 = .ok (.imul, 1) := by decide +kernel
theorem dX6_bestMinutes_4 : decode cX6_bestMinutes 4 = .ok (.istore_n 2, 1) := by decide +kernel
theorem dX6_bestMinutes_5 : decode cX6_bestMinutes 5 = .ok (.iconst 1, 1) := by decide +kernel
theorem dX6_bestMinutes_6 : decode cX6_bestMinutes 6 = .ok (.istore_n 3, 1) := by decide +kernel
theorem dX6_bestMinutes_7 : decode cX6_bestMinutes 7 = .ok (.iconst 2, 1) := by decide +kernel
theorem dX6_bestMinutes_8 : decode cX6_bestMinutes 8 = .ok (.istore 4, 2) := by decide +kernel
theorem dX6_bestMinutes_10 : decode cX6_bestMinutes 10 = .ok (.iload 4, 2) := by decide +kernel
theorem dX6_bestMinutes_12 : decode cX6_bestMinutes 12 = .ok (.bipush 30, 2) := by decide +kernel
theorem dX6_bestMinutes_14 : decode cX6_bestMinutes 14 = .ok (.if_icmp .gt 41, 3) := by decide +kernel
theorem dX6_bestMinutes_17 : decode cX6_bestMinutes 17 = .ok (.aload_n 0, 1) := by decide +kernel
theorem dX6_bestMinutes_18 : decode cX6_bestMinutes 18 = .ok (.getfield 14, 3) := by decide +kernel
theorem dX6_bestMinutes_21 : decode cX6_bestMinutes 21 = .ok (.iload 4, 2) := by decide +kernel
theorem dX6_bestMinutes_23 : decode cX6_bestMinutes 23 = .ok (.invokevirtual 24, 3) := by decide +kernel
theorem dX6_bestMinutes_26 : decode cX6_bestMinutes 26 = .ok (.iload_n 3, 1) := by decide +kernel
theorem dX6_bestMinutes_27 : decode cX6_bestMinutes 27 = .ok (.iload_n 2, 1) := by decide +kernel
theorem dX6_bestMinutes_28 : decode cX6_bestMinutes 28 = .ok (.iadd, 1) := by decide +kernel
theorem dX6_bestMinutes_29 : decode cX6_bestMinutes 29 = .ok (.imul, 1) := by decide +kernel
theorem dX6_bestMinutes_30 : decode cX6_bestMinutes 30 = .ok (.aload_n 0, 1) := by decide +kernel
theorem dX6_bestMinutes_31 : decode cX6_bestMinutes 31 = .ok (.getfield 14, 3) := by decide +kernel
theorem dX6_bestMinutes_34 : decode cX6_bestMinutes 34 = .ok (.iload_n 3, 1) := by decide +kernel
theorem dX6_bestMinutes_35 : decode cX6_bestMinutes 35 = .ok (.invokevirtual 24, 3) := by decide +kernel
theorem dX6_bestMinutes_38 : decode cX6_bestMinutes 38 = .ok (.iload 4, 2) := by decide +kernel
theorem dX6_bestMinutes_40 : decode cX6_bestMinutes 40 = .ok (.iload_n 2, 1) := by decide +kernel
theorem dX6_bestMinutes_41 : decode cX6_bestMinutes 41 = .ok (.iadd, 1) := by decide +kernel
theorem dX6_bestMinutes_42 : decode cX6_bestMinutes 42 = .ok (.imul, 1) := by decide +kernel
theorem dX6_bestMinutes_43 : decode cX6_bestMinutes 43 = .ok (.if_icmp .le 6, 3) := by decide +kernel
theorem dX6_bestMinutes_46 : decode cX6_bestMinutes 46 = .ok (.iload 4, 2) := by decide +kernel
theorem dX6_bestMinutes_48 : decode cX6_bestMinutes 48 = .ok (.istore_n 3, 1) := by decide +kernel
theorem dX6_bestMinutes_49 : decode cX6_bestMinutes 49 = .ok (.iinc 4 1, 3) := by decide +kernel
theorem dX6_bestMinutes_52 : decode cX6_bestMinutes 52 = .ok (.goto (-42), 3) := by decide +kernel
theorem dX6_bestMinutes_55 : decode cX6_bestMinutes 55 = .ok (.iload_n 3, 1) := by decide +kernel
theorem dX6_bestMinutes_56 : decode cX6_bestMinutes 56 = .ok (.ireturn, 1) := by decide +kernel
theorem dX7_init_0 : decode cX7_init 0 = .ok (.aload_n 0, 1) := by decide +kernel
theorem dX7_init_1 : decode cX7_init 1 = .ok (.invokespecial 3, 3) := by decide +kernel
theorem dX7_init_4 : decode cX7_init 4 = .ok (.aload_n 0, 1) := by decide +kernel
theorem dX7_init_5 : decode cX7_init 5 = .ok (.new 9, 3) := by decide +kernel
theorem dX7_init_8 : decode cX7_init 8 = .ok (.dup, 1) := by decide +kernel
theorem dX7_init_9 : decode cX7_init 9 = .ok (.iconst 3, 1) := by decide +kernel
theorem dX7_init_10 : decode cX7_init 10 = .ok (.invokespecial 11, 3) := by decide +kernel
theorem dX7_init_13 : decode cX7_init 13 = .ok (.putfield 14, 3) := by decide +kernel
theorem dX7_init_16 : decode cX7_init 16 = .ok (.aload_n 0, 1) := by decide +kernel
theorem dX7_init_17 : decode cX7_init 17 = .ok (.new 9, 3) := by decide +kernel
theorem dX7_init_20 : decode cX7_init 20 = .ok (.dup, 1) := by decide +kernel
theorem dX7_init_21 : decode cX7_init 21 = .ok (.iconst 3, 1) := by decide +kernel
theorem dX7_init_22 : decode cX7_init 22 = .ok (.invokespecial 11, 3) := by decide +kernel
theorem dX7_init_25 : decode cX7_init 25 = .ok (.putfield 20, 3) := by decide +kernel
theorem dX7_init_28 : decode cX7_init 28 = .ok (.aload_n 0, 1) := by decide +kernel
theorem dX7_init_29 : decode cX7_init 29 = .ok (.new 9, 3) := by decide +kernel
theorem dX7_init_32 : decode cX7_init 32 = .ok (.dup, 1) := by decide +kernel
theorem dX7_init_33 : decode cX7_init 33 = .ok (.iconst 3, 1) := by decide +kernel
theorem dX7_init_34 : decode cX7_init 34 = .ok (.invokespecial 11, 3) := by decide +kernel
theorem dX7_init_37 : decode cX7_init 37 = .ok (.putfield 23, 3) := by decide +kernel
theorem dX7_init_40 : decode cX7_init 40 = .ok (.return_, 1) := by decide +kernel
theorem dX7_start_0 : decode cX7_start 0 = .ok (.aload_n 0, 1) := by decide +kernel
theorem dX7_start_1 : decode cX7_start 1 = .ok (.getfield 14, 3) := by decide +kernel
theorem dX7_start_4 : decode cX7_start 4 = .ok (.iconst 0, 1) := by decide +kernel
theorem dX7_start_5 : decode cX7_start 5 = .ok (.invokevirtual 26, 3) := by decide +kernel
theorem dX7_start_8 : decode cX7_start 8 = .ok (.aload_n 0, 1) := by decide +kernel
theorem dX7_start_9 : decode cX7_start 9 = .ok (.getfield 20, 3) := by decide +kernel
theorem dX7_start_12 : decode cX7_start 12 = .ok (.sipush 1000, 3) := by decide +kernel
theorem dX7_start_15 : decode cX7_start 15 = .ok (.invokevirtual 26, 3) := by decide +kernel
theorem dX7_start_18 : decode cX7_start 18 = .ok (.aload_n 0, 1) := by decide +kernel
theorem dX7_start_19 : decode cX7_start 19 = .ok (.getfield 23, 3) := by decide +kernel
theorem dX7_start_22 : decode cX7_start 22 = .ok (.iconst 2, 1) := by decide +kernel
theorem dX7_start_23 : decode cX7_start 23 = .ok (.invokevirtual 26, 3) := by decide +kernel
theorem dX7_start_26 : decode cX7_start 26 = .ok (.return_, 1) := by decide +kernel
theorem dX7_has_0 : decode cX7_has 0 = .ok (.iload_n 1, 1) := by decide +kernel
theorem dX7_has_1 : decode cX7_has 1 = .ok (.iconst 0, 1) := by decide +kernel
theorem dX7_has_2 : decode cX7_has 2 = .ok (.iconst 2, 1) := by decide +kernel
theorem dX7_has_3 : decode cX7_has 3 = .ok (.invokestatic 29, 3) := by decide +kernel
theorem dX7_has_6 : decode cX7_has 6 = .ok (.ireturn, 1) := by decide +kernel
theorem dX7_hasRoom_0 : decode cX7_hasRoom 0 = .ok (.aload_n 0, 1) := by decide +kernel
theorem dX7_hasRoom_1 : decode cX7_hasRoom 1 = .ok (.getfield 14, 3) := by decide +kernel
theorem dX7_hasRoom_4 : decode cX7_hasRoom 4 = .ok (.iload_n 1, 1) := by decide +kernel
theorem dX7_hasRoom_5 : decode cX7_hasRoom 5 = .ok (.invokevirtual 33, 3) := by decide +kernel
theorem dX7_hasRoom_8 : decode cX7_hasRoom 8 = .ok (.iload_n 2, 1) := by decide +kernel
theorem dX7_hasRoom_9 : decode cX7_hasRoom 9 = .ok (.iadd, 1) := by decide +kernel
theorem dX7_hasRoom_10 : decode cX7_hasRoom 10 = .ok (.aload_n 0, 1) := by decide +kernel
theorem dX7_hasRoom_11 : decode cX7_hasRoom 11 = .ok (.getfield 20, 3) := by decide +kernel
theorem dX7_hasRoom_14 : decode cX7_hasRoom 14 = .ok (.iload_n 1, 1) := by decide +kernel
theorem dX7_hasRoom_15 : decode cX7_hasRoom 15 = .ok (.invokevirtual 33, 3) := by decide +kernel
theorem dX7_hasRoom_18 : decode cX7_hasRoom 18 = .ok (.if_icmp .gt 7, 3) := by decide +kernel
theorem dX7_hasRoom_21 : decode cX7_hasRoom 21 = .ok (.iconst 1, 1) := by decide +kernel
theorem dX7_hasRoom_22 : decode cX7_hasRoom 22 = .ok (.goto 4, 3) := by decide +kernel
theorem dX7_hasRoom_25 : decode cX7_hasRoom 25 = .ok (.iconst 0, 1) := by decide +kernel
theorem dX7_hasRoom_26 : decode cX7_hasRoom 26 = .ok (.ireturn, 1) := by decide +kernel
theorem dX8_init_0 : decode cX8_init 0 = .ok (.aload_n 0, 1) := by decide +kernel
theorem dX8_init_1 : decode cX8_init 1 = .ok (.invokespecial 3, 3) := by decide +kernel
theorem dX8_init_4 : decode cX8_init 4 = .ok (.aload_n 0, 1) := by decide +kernel
theorem dX8_init_5 : decode cX8_init 5 = .ok (.new 9, 3) := by decide +kernel
theorem dX8_init_8 : decode cX8_init 8 = .ok (.dup, 1) := by decide +kernel
theorem dX8_init_9 : decode cX8_init 9 = .ok (.bipush 12, 2) := by decide +kernel
theorem dX8_init_11 : decode cX8_init 11 = .ok (.invokespecial 11, 3) := by decide +kernel
theorem dX8_init_14 : decode cX8_init 14 = .ok (.putfield 14, 3) := by decide +kernel
theorem dX8_init_17 : decode cX8_init 17 = .ok (.return_, 1) := by decide +kernel
theorem dX8_firstEnough_0 : decode cX8_firstEnough 0 = .ok (.iload_n 1, 1) := by decide +kernel
theorem dX8_firstEnough_1 : decode cX8_firstEnough 1 = .ok (.istore_n 3, 1) := by decide +kernel
theorem dX8_firstEnough_2 : decode cX8_firstEnough 2 = .ok (.iload_n 3, 1) := by decide +kernel
theorem dX8_firstEnough_3 : decode cX8_firstEnough 3 = .ok (.iload_n 1, 1) := by decide +kernel
theorem dX8_firstEnough_4 : decode cX8_firstEnough 4 = .ok (.bipush 12, 2) := by decide +kernel
theorem dX8_firstEnough_6 : decode cX8_firstEnough 6 = .ok (.iadd, 1) := by decide +kernel
theorem dX8_firstEnough_7 : decode cX8_firstEnough 7 = .ok (.if_icmp .ge 26, 3) := by decide +kernel
theorem dX8_firstEnough_10 : decode cX8_firstEnough 10 = .ok (.aload_n 0, 1) := by decide +kernel
theorem dX8_firstEnough_11 : decode cX8_firstEnough 11 = .ok (.getfield 14, 3) := by decide +kernel
theorem dX8_firstEnough_14 : decode cX8_firstEnough 14 = .ok (.iload_n 3, 1) := by decide +kernel
theorem dX8_firstEnough_15 : decode cX8_firstEnough 15 = .ok (.bipush 12, 2) := by decide +kernel
theorem dX8_firstEnough_17 : decode cX8_firstEnough 17 = .ok (.irem, 1) := by decide +kernel
theorem dX8_firstEnough_18 : decode cX8_firstEnough 18 = .ok (.invokevirtual 20, 3) := by decide +kernel
theorem dX8_firstEnough_21 : decode cX8_firstEnough 21 = .ok (.iload_n 2, 1) := by decide +kernel
theorem dX8_firstEnough_22 : decode cX8_firstEnough 22 = .ok (.if_icmp .lt 5, 3) := by decide +kernel
theorem dX8_firstEnough_25 : decode cX8_firstEnough 25 = .ok (.iload_n 3, 1) := by decide +kernel
theorem dX8_firstEnough_26 : decode cX8_firstEnough 26 = .ok (.ireturn, 1) := by decide +kernel
theorem dX8_firstEnough_27 : decode cX8_firstEnough 27 = .ok (.iinc 3 1, 3) := by decide +kernel
theorem dX8_firstEnough_30 : decode cX8_firstEnough 30 = .ok (.goto (-28), 3) := by decide +kernel
theorem dX8_firstEnough_33 : decode cX8_firstEnough 33 = .ok (.iconst (-1), 1) := by decide +kernel
theorem dX8_firstEnough_34 : decode cX8_firstEnough 34 = .ok (.ireturn, 1) := by decide +kernel
theorem dX9_init_0 : decode cX9_init 0 = .ok (.aload_n 0, 1) := by decide +kernel
theorem dX9_init_1 : decode cX9_init 1 = .ok (.invokespecial 3, 3) := by decide +kernel
theorem dX9_init_4 : decode cX9_init 4 = .ok (.aload_n 0, 1) := by decide +kernel
theorem dX9_init_5 : decode cX9_init 5 = .ok (.new 9, 3) := by decide +kernel
theorem dX9_init_8 : decode cX9_init 8 = .ok (.dup, 1) := by decide +kernel
theorem dX9_init_9 : decode cX9_init 9 = .ok (.iconst 5, 1) := by decide +kernel
theorem dX9_init_10 : decode cX9_init 10 = .ok (.invokespecial 11, 3) := by decide +kernel
theorem dX9_init_13 : decode cX9_init 13 = .ok (.putfield 14, 3) := by decide +kernel
theorem dX9_init_16 : decode cX9_init 16 = .ok (.aload_n 0, 1) := by decide +kernel
theorem dX9_init_17 : decode cX9_init 17 = .ok (.new 18, 3) := by decide +kernel
theorem dX9_init_20 : decode cX9_init 20 = .ok (.dup, 1) := by decide +kernel
theorem dX9_init_21 : decode cX9_init 21 = .ok (.invokespecial 20, 3) := by decide +kernel
theorem dX9_init_24 : decode cX9_init 24 = .ok (.putfield 21, 3) := by decide +kernel
theorem dX9_init_27 : decode cX9_init 27 = .ok (.aload_n 0, 1) := by decide +kernel
theorem dX9_init_28 : decode cX9_init 28 = .ok (.new 25, 3) := by decide +kernel
theorem dX9_init_31 : decode cX9_init 31 = .ok (.dup, 1) := by decide +kernel
theorem dX9_init_32 : decode cX9_init 32 = .ok (.invokespecial 27, 3) := by decide +kernel
theorem dX9_init_35 : decode cX9_init 35 = .ok (.putfield 28, 3) := by decide +kernel
theorem dX9_init_38 : decode cX9_init 38 = .ok (.aload_n 0, 1) := by decide +kernel
theorem dX9_init_39 : decode cX9_init 39 = .ok (.new 32, 3) := by decide +kernel
theorem dX9_init_42 : decode cX9_init 42 = .ok (.dup, 1) := by decide +kernel
theorem dX9_init_43 : decode cX9_init 43 = .ok (.invokespecial 34, 3) := by decide +kernel
theorem dX9_init_46 : decode cX9_init 46 = .ok (.putfield 35, 3) := by decide +kernel
theorem dX9_init_49 : decode cX9_init 49 = .ok (.aload_n 0, 1) := by decide +kernel
theorem dX9_init_50 : decode cX9_init 50 = .ok (.new 39, 3) := by decide +kernel
theorem dX9_init_53 : decode cX9_init 53 = .ok (.dup, 1) := by decide +kernel
theorem dX9_init_54 : decode cX9_init 54 = .ok (.invokespecial 41, 3) := by decide +kernel
theorem dX9_init_57 : decode cX9_init 57 = .ok (.putfield 42, 3) := by decide +kernel
theorem dX9_init_60 : decode cX9_init 60 = .ok (.aload_n 0, 1) := by decide +kernel
theorem dX9_init_61 : decode cX9_init 61 = .ok (.new 46, 3) := by decide +kernel
theorem dX9_init_64 : decode cX9_init 64 = .ok (.dup, 1) := by decide +kernel
theorem dX9_init_65 : decode cX9_init 65 = .ok (.invokespecial 48, 3) := by decide +kernel
theorem dX9_init_68 : decode cX9_init 68 = .ok (.putfield 49, 3) := by decide +kernel
theorem dX9_init_71 : decode cX9_init 71 = .ok (.aload_n 0, 1) := by decide +kernel
theorem dX9_init_72 : decode cX9_init 72 = .ok (.new 53, 3) := by decide +kernel
theorem dX9_init_75 : decode cX9_init 75 = .ok (.dup, 1) := by decide +kernel
theorem dX9_init_76 : decode cX9_init 76 = .ok (.invokespecial 55, 3) := by decide +kernel
theorem dX9_init_79 : decode cX9_init 79 = .ok (.putfield 56, 3) := by decide +kernel
theorem dX9_init_82 : decode cX9_init 82 = .ok (.aload_n 0, 1) := by decide +kernel
theorem dX9_init_83 : decode cX9_init 83 = .ok (.new 60, 3) := by decide +kernel
theorem dX9_init_86 : decode cX9_init 86 = .ok (.dup, 1) := by decide +kernel
theorem dX9_init_87 : decode cX9_init 87 = .ok (.invokespecial 62, 3) := by decide +kernel
theorem dX9_init_90 : decode cX9_init 90 = .ok (.putfield 63, 3) := by decide +kernel
theorem dX9_init_93 : decode cX9_init 93 = .ok (.aload_n 0, 1) := by decide +kernel
theorem dX9_init_94 : decode cX9_init 94 = .ok (.new 67, 3) := by decide +kernel
theorem dX9_init_97 : decode cX9_init 97 = .ok (.dup, 1) := by decide +kernel
theorem dX9_init_98 : decode cX9_init 98 = .ok (.invokespecial 69, 3) := by decide +kernel
theorem dX9_init_101 : decode cX9_init 101 = .ok (.putfield 70, 3) := by decide +kernel
theorem dX9_init_104 : decode cX9_init 104 = .ok (.aload_n 0, 1) := by decide +kernel
theorem dX9_init_105 : decode cX9_init 105 = .ok (.iconst 1, 1) := by decide +kernel
theorem dX9_init_106 : decode cX9_init 106 = .ok (.iconst 1, 1) := by decide +kernel
theorem dX9_init_107 : decode cX9_init 107 = .ok (.invokevirtual 74, 3) := by decide +kernel
theorem dX9_init_110 : decode cX9_init 110 = .ok (.return_, 1) := by decide +kernel
theorem dX9_board_0 : decode cX9_board 0 = .ok (.iload_n 1, 1) := by decide +kernel
theorem dX9_board_1 : decode cX9_board 1 = .ok (.iconst 1, 1) := by decide +kernel
theorem dX9_board_2 : decode cX9_board 2 = .ok (.bipush 12, 2) := by decide +kernel
theorem dX9_board_4 : decode cX9_board 4 = .ok (.invokestatic 78, 3) := by decide +kernel
theorem dX9_board_7 : decode cX9_board 7 = .ok (.ifCond .eq 13, 3) := by decide +kernel
theorem dX9_board_10 : decode cX9_board 10 = .ok (.iload_n 2, 1) := by decide +kernel
theorem dX9_board_11 : decode cX9_board 11 = .ok (.iconst 1, 1) := by decide +kernel
theorem dX9_board_12 : decode cX9_board 12 = .ok (.bipush 10, 2) := by decide +kernel
theorem dX9_board_14 : decode cX9_board 14 = .ok (.invokestatic 78, 3) := by decide +kernel
theorem dX9_board_17 : decode cX9_board 17 = .ok (.ifCond .ne 5, 3) := by decide +kernel
theorem dX9_board_20 : decode cX9_board 20 = .ok (.iconst (-1), 1) := by decide +kernel
theorem dX9_board_21 : decode cX9_board 21 = .ok (.ireturn, 1) := by decide +kernel
theorem dX9_board_22 : decode cX9_board 22 = .ok (.aload_n 0, 1) := by decide +kernel
theorem dX9_board_23 : decode cX9_board 23 = .ok (.iload_n 1, 1) := by decide +kernel
theorem dX9_board_24 : decode cX9_board 24 = .ok (.iload_n 2, 1) := by decide +kernel
theorem dX9_board_25 : decode cX9_board 25 = .ok (.invokevirtual 74, 3) := by decide +kernel
theorem dX9_board_28 : decode cX9_board 28 = .ok (.aload_n 0, 1) := by decide +kernel
theorem dX9_board_29 : decode cX9_board 29 = .ok (.getfield 21, 3) := by decide +kernel
theorem dX9_board_32 : decode cX9_board 32 = .ok (.invokevirtual 82, 3) := by decide +kernel
theorem dX9_board_35 : decode cX9_board 35 = .ok (.ireturn, 1) := by decide +kernel
theorem dX9_lay_0 : decode cX9_lay 0 = .ok (.aload_n 0, 1) := by decide +kernel
theorem dX9_lay_1 : decode cX9_lay 1 = .ok (.getfield 21, 3) := by decide +kernel
theorem dX9_lay_4 : decode cX9_lay 4 = .ok (.iload_n 1, 1) := by decide +kernel
theorem dX9_lay_5 : decode cX9_lay 5 = .ok (.invokevirtual 86, 3) := by decide +kernel
theorem dX9_lay_8 : decode cX9_lay 8 = .ok (.ifCond .eq 12, 3) := by decide +kernel
theorem dX9_lay_11 : decode cX9_lay 11 = .ok (.iload_n 2, 1) := by decide +kernel
theorem dX9_lay_12 : decode cX9_lay 12 = .ok (.iconst 0, 1) := by decide +kernel
theorem dX9_lay_13 : decode cX9_lay 13 = .ok (.iconst 1, 1) := by decide +kernel
theorem dX9_lay_14 : decode cX9_lay 14 = .ok (.invokestatic 78, 3) := by decide +kernel
theorem dX9_lay_17 : decode cX9_lay 17 = .ok (.ifCond .ne 5, 3) := by decide +kernel
theorem dX9_lay_20 : decode cX9_lay 20 = .ok (.iconst (-1), 1) := by decide +kernel
theorem dX9_lay_21 : decode cX9_lay 21 = .ok (.ireturn, 1) := by decide +kernel
theorem dX9_lay_22 : decode cX9_lay 22 = .ok (.iload_n 3, 1) := by decide +kernel
theorem dX9_lay_23 : decode cX9_lay 23 = .ok (.iconst 0, 1) := by decide +kernel
theorem dX9_lay_24 : decode cX9_lay 24 = .ok (.iload_n 2, 1) := by decide +kernel
theorem dX9_lay_25 : decode cX9_lay 25 = .ok (.ifCond .ne 9, 3) := by decide +kernel
theorem dX9_lay_28 : decode cX9_lay 28 = .ok (.sipush 400, 3) := by decide +kernel
theorem dX9_lay_31 : decode cX9_lay 31 = .ok (.goto 6, 3) := by decide +kernel
theorem dX9_lay_34 : decode cX9_lay 34 = .ok (.sipush 300, 3) := by decide +kernel
theorem dX9_lay_37 : decode cX9_lay 37 = .ok (.invokestatic 78, 3) := by decide +kernel
theorem dX9_lay_40 : decode cX9_lay 40 = .ok (.ifCond .ne 5, 3) := by decide +kernel
theorem dX9_lay_43 : decode cX9_lay 43 = .ok (.iconst (-1), 1) := by decide +kernel
theorem dX9_lay_44 : decode cX9_lay 44 = .ok (.ireturn, 1) := by decide +kernel
theorem dX9_lay_45 : decode cX9_lay 45 = .ok (.iload_n 2, 1) := by decide +kernel
theorem dX9_lay_46 : decode cX9_lay 46 = .ok (.ifCond .ne 18, 3) := by decide +kernel
theorem dX9_lay_49 : decode cX9_lay 49 = .ok (.aload_n 0, 1) := by decide +kernel
theorem dX9_lay_50 : decode cX9_lay 50 = .ok (.getfield 21, 3) := by decide +kernel
theorem dX9_lay_53 : decode cX9_lay 53 = .ok (.getfield 90, 3) := by decide +kernel
theorem dX9_lay_56 : decode cX9_lay 56 = .ok (.iload_n 1, 1) := by decide +kernel
theorem dX9_lay_57 : decode cX9_lay 57 = .ok (.iload_n 3, 1) := by decide +kernel
theorem dX9_lay_58 : decode cX9_lay 58 = .ok (.invokevirtual 93, 3) := by decide +kernel
theorem dX9_lay_61 : decode cX9_lay 61 = .ok (.goto 15, 3) := by decide +kernel
theorem dX9_lay_64 : decode cX9_lay 64 = .ok (.aload_n 0, 1) := by decide +kernel
theorem dX9_lay_65 : decode cX9_lay 65 = .ok (.getfield 21, 3) := by decide +kernel
theorem dX9_lay_68 : decode cX9_lay 68 = .ok (.getfield 97, 3) := by decide +kernel
theorem dX9_lay_71 : decode cX9_lay 71 = .ok (.iload_n 1, 1) := by decide +kernel
theorem dX9_lay_72 : decode cX9_lay 72 = .ok (.iload_n 3, 1) := by decide +kernel
theorem dX9_lay_73 : decode cX9_lay 73 = .ok (.invokevirtual 93, 3) := by decide +kernel
theorem dX9_lay_76 : decode cX9_lay 76 = .ok (.ireturn, 1) := by decide +kernel
theorem dX9_rule_0 : decode cX9_rule 0 = .ok (.iload_n 1, 1) := by decide +kernel
theorem dX9_rule_1 : decode cX9_rule 1 = .ok (.iconst 0, 1) := by decide +kernel
theorem dX9_rule_2 : decode cX9_rule 2 = .ok (.iconst 4, 1) := by decide +kernel
theorem dX9_rule_3 : decode cX9_rule 3 = .ok (.invokestatic 78, 3) := by decide +kernel
theorem dX9_rule_6 : decode cX9_rule 6 = .ok (.ifCond .eq 18, 3) := by decide +kernel
theorem dX9_rule_9 : decode cX9_rule 9 = .ok (.iload_n 2, 1) := by decide +kernel
theorem dX9_rule_10 : decode cX9_rule 10 = .ok (.iload_n 1, 1) := by decide +kernel
theorem dX9_rule_11 : decode cX9_rule 11 = .ok (.invokestatic 100, 3) := by decide +kernel
theorem dX9_rule_14 : decode cX9_rule 14 = .ok (.iload_n 1, 1) := by decide +kernel
theorem dX9_rule_15 : decode cX9_rule 15 = .ok (.invokestatic 104, 3) := by decide +kernel
theorem dX9_rule_18 : decode cX9_rule 18 = .ok (.invokestatic 78, 3) := by decide +kernel
theorem dX9_rule_21 : decode cX9_rule 21 = .ok (.ifCond .ne 6, 3) := by decide +kernel
theorem dX9_rule_24 : decode cX9_rule 24 = .ok (.bipush (-9), 2) := by decide +kernel
theorem dX9_rule_26 : decode cX9_rule 26 = .ok (.ireturn, 1) := by decide +kernel
theorem dX9_rule_27 : decode cX9_rule 27 = .ok (.aload_n 0, 1) := by decide +kernel
theorem dX9_rule_28 : decode cX9_rule 28 = .ok (.getfield 14, 3) := by decide +kernel
theorem dX9_rule_31 : decode cX9_rule 31 = .ok (.iload_n 1, 1) := by decide +kernel
theorem dX9_rule_32 : decode cX9_rule 32 = .ok (.iload_n 2, 1) := by decide +kernel
theorem dX9_rule_33 : decode cX9_rule 33 = .ok (.invokevirtual 93, 3) := by decide +kernel
theorem dX9_rule_36 : decode cX9_rule 36 = .ok (.ireturn, 1) := by decide +kernel
theorem dX9_tide_0 : decode cX9_tide 0 = .ok (.iload_n 1, 1) := by decide +kernel
theorem dX9_tide_1 : decode cX9_tide 1 = .ok (.iconst 0, 1) := by decide +kernel
theorem dX9_tide_2 : decode cX9_tide 2 = .ok (.bipush 11, 2) := by decide +kernel
theorem dX9_tide_4 : decode cX9_tide 4 = .ok (.invokestatic 78, 3) := by decide +kernel
theorem dX9_tide_7 : decode cX9_tide 7 = .ok (.ifCond .eq 13, 3) := by decide +kernel
theorem dX9_tide_10 : decode cX9_tide 10 = .ok (.iload_n 2, 1) := by decide +kernel
theorem dX9_tide_11 : decode cX9_tide 11 = .ok (.iconst 0, 1) := by decide +kernel
theorem dX9_tide_12 : decode cX9_tide 12 = .ok (.bipush 60, 2) := by decide +kernel
theorem dX9_tide_14 : decode cX9_tide 14 = .ok (.invokestatic 78, 3) := by decide +kernel
theorem dX9_tide_17 : decode cX9_tide 17 = .ok (.ifCond .ne 5, 3) := by decide +kernel
theorem dX9_tide_20 : decode cX9_tide 20 = .ok (.iconst (-1), 1) := by decide +kernel
theorem dX9_tide_21 : decode cX9_tide 21 = .ok (.ireturn, 1) := by decide +kernel
theorem dX9_tide_22 : decode cX9_tide 22 = .ok (.aload_n 0, 1) := by decide +kernel
theorem dX9_tide_23 : decode cX9_tide 23 = .ok (.getfield 35, 3) := by decide +kernel
theorem dX9_tide_26 : decode cX9_tide 26 = .ok (.getfield 107, 3) := by decide +kernel
theorem dX9_tide_29 : decode cX9_tide 29 = .ok (.iload_n 1, 1) := by decide +kernel
theorem dX9_tide_30 : decode cX9_tide 30 = .ok (.iload_n 2, 1) := by decide +kernel
theorem dX9_tide_31 : decode cX9_tide 31 = .ok (.invokevirtual 93, 3) := by decide +kernel
theorem dX9_tide_34 : decode cX9_tide 34 = .ok (.ireturn, 1) := by decide +kernel
theorem dX9_hold_0 : decode cX9_hold 0 = .ok (.iload_n 1, 1) := by decide +kernel
theorem dX9_hold_1 : decode cX9_hold 1 = .ok (.iconst 1, 1) := by decide +kernel
theorem dX9_hold_2 : decode cX9_hold 2 = .ok (.bipush 30, 2) := by decide +kernel
theorem dX9_hold_4 : decode cX9_hold 4 = .ok (.invokestatic 78, 3) := by decide +kernel
theorem dX9_hold_7 : decode cX9_hold 7 = .ok (.ifCond .eq 14, 3) := by decide +kernel
theorem dX9_hold_10 : decode cX9_hold 10 = .ok (.iload_n 2, 1) := by decide +kernel
theorem dX9_hold_11 : decode cX9_hold 11 = .ok (.iconst 0, 1) := by decide +kernel
theorem dX9_hold_12 : decode cX9_hold 12 = .ok (.sipush 200, 3) := by decide +kernel
theorem dX9_hold_15 : decode cX9_hold 15 = .ok (.invokestatic 78, 3) := by decide +kernel
theorem dX9_hold_18 : decode cX9_hold 18 = .ok (.ifCond .ne 5, 3) := by decide +kernel
theorem dX9_hold_21 : decode cX9_hold 21 = .ok (.iconst (-1), 1) := by decide +kernel
theorem dX9_hold_22 : decode cX9_hold 22 = .ok (.ireturn, 1) := by decide +kernel
theorem dX9_hold_23 : decode cX9_hold 23 = .ok (.aload_n 0, 1) := by decide +kernel
theorem dX9_hold_24 : decode cX9_hold 24 = .ok (.getfield 42, 3) := by decide +kernel
theorem dX9_hold_27 : decode cX9_hold 27 = .ok (.iload_n 1, 1) := by decide +kernel
theorem dX9_hold_28 : decode cX9_hold 28 = .ok (.iload_n 2, 1) := by decide +kernel
theorem dX9_hold_29 : decode cX9_hold 29 = .ok (.invokevirtual 110, 3) := by decide +kernel
theorem dX9_hold_32 : decode cX9_hold 32 = .ok (.ireturn, 1) := by decide +kernel
theorem dX9_spot_0 : decode cX9_spot 0 = .ok (.aload_n 0, 1) := by decide +kernel
theorem dX9_spot_1 : decode cX9_spot 1 = .ok (.getfield 56, 3) := by decide +kernel
theorem dX9_spot_4 : decode cX9_spot 4 = .ok (.iload_n 1, 1) := by decide +kernel
theorem dX9_spot_5 : decode cX9_spot 5 = .ok (.invokevirtual 113, 3) := by decide +kernel
theorem dX9_spot_8 : decode cX9_spot 8 = .ok (.ifCond .eq 23, 3) := by decide +kernel
theorem dX9_spot_11 : decode cX9_spot 11 = .ok (.iload_n 2, 1) := by decide +kernel
theorem dX9_spot_12 : decode cX9_spot 12 = .ok (.iconst 0, 1) := by decide +kernel
theorem dX9_spot_13 : decode cX9_spot 13 = .ok (.ldc 114, 2) := by decide +kernel
theorem dX9_spot_15 : decode cX9_spot 15 = .ok (.invokestatic 78, 3) := by decide +kernel
theorem dX9_spot_18 : decode cX9_spot 18 = .ok (.ifCond .eq 13, 3) := by decide +kernel
theorem dX9_spot_21 : decode cX9_spot 21 = .ok (.iload_n 3, 1) := by decide +kernel
theorem dX9_spot_22 : decode cX9_spot 22 = .ok (.iconst 1, 1) := by decide +kernel
theorem dX9_spot_23 : decode cX9_spot 23 = .ok (.bipush 20, 2) := by decide +kernel
theorem dX9_spot_25 : decode cX9_spot 25 = .ok (.invokestatic 78, 3) := by decide +kernel
theorem dX9_spot_28 : decode cX9_spot 28 = .ok (.ifCond .ne 5, 3) := by decide +kernel
theorem dX9_spot_31 : decode cX9_spot 31 = .ok (.iconst (-1), 1) := by decide +kernel
theorem dX9_spot_32 : decode cX9_spot 32 = .ok (.ireturn, 1) := by decide +kernel
theorem dX9_spot_33 : decode cX9_spot 33 = .ok (.aload_n 0, 1) := by decide +kernel
theorem dX9_spot_34 : decode cX9_spot 34 = .ok (.getfield 56, 3) := by decide +kernel
theorem dX9_spot_37 : decode cX9_spot 37 = .ok (.getfield 115, 3) := by decide +kernel
theorem dX9_spot_40 : decode cX9_spot 40 = .ok (.iload_n 1, 1) := by decide +kernel
theorem dX9_spot_41 : decode cX9_spot 41 = .ok (.invokevirtual 118, 3) := by decide +kernel
theorem dX9_spot_44 : decode cX9_spot 44 = .ok (.iload_n 2, 1) := by decide +kernel
theorem dX9_spot_45 : decode cX9_spot 45 = .ok (.if_icmp .le 6, 3) := by decide +kernel
theorem dX9_spot_48 : decode cX9_spot 48 = .ok (.bipush (-2), 2) := by decide +kernel
theorem dX9_spot_50 : decode cX9_spot 50 = .ok (.ireturn, 1) := by decide +kernel
theorem dX9_spot_51 : decode cX9_spot 51 = .ok (.aload_n 0, 1) := by decide +kernel
theorem dX9_spot_52 : decode cX9_spot 52 = .ok (.getfield 56, 3) := by decide +kernel
theorem dX9_spot_55 : decode cX9_spot 55 = .ok (.getfield 121, 3) := by decide +kernel
theorem dX9_spot_58 : decode cX9_spot 58 = .ok (.iload_n 1, 1) := by decide +kernel
theorem dX9_spot_59 : decode cX9_spot 59 = .ok (.iload_n 2, 1) := by decide +kernel
theorem dX9_spot_60 : decode cX9_spot 60 = .ok (.invokevirtual 93, 3) := by decide +kernel
theorem dX9_spot_63 : decode cX9_spot 63 = .ok (.pop, 1) := by decide +kernel
theorem dX9_spot_64 : decode cX9_spot 64 = .ok (.aload_n 0, 1) := by decide +kernel
theorem dX9_spot_65 : decode cX9_spot 65 = .ok (.getfield 56, 3) := by decide +kernel
theorem dX9_spot_68 : decode cX9_spot 68 = .ok (.getfield 124, 3) := by decide +kernel
theorem dX9_spot_71 : decode cX9_spot 71 = .ok (.iload_n 1, 1) := by decide +kernel
theorem dX9_spot_72 : decode cX9_spot 72 = .ok (.iload_n 3, 1) := by decide +kernel
theorem dX9_spot_73 : decode cX9_spot 73 = .ok (.invokevirtual 93, 3) := by decide +kernel
theorem dX9_spot_76 : decode cX9_spot 76 = .ok (.pop, 1) := by decide +kernel
theorem dX9_spot_77 : decode cX9_spot 77 = .ok (.aload_n 0, 1) := by decide +kernel
theorem dX9_spot_78 : decode cX9_spot 78 = .ok (.getfield 56, 3) := by decide +kernel
theorem dX9_spot_81 : decode cX9_spot 81 = .ok (.getfield 115, 3) := by decide +kernel
theorem dX9_spot_84 : decode cX9_spot 84 = .ok (.iload_n 1, 1) := by decide +kernel
theorem dX9_spot_85 : decode cX9_spot 85 = .ok (.invokevirtual 118, 3) := by decide +kernel
theorem dX9_spot_88 : decode cX9_spot 88 = .ok (.ireturn, 1) := by decide +kernel
theorem dX9_post_0 : decode cX9_post 0 = .ok (.aload_n 0, 1) := by decide +kernel
theorem dX9_post_1 : decode cX9_post 1 = .ok (.getfield 21, 3) := by decide +kernel
theorem dX9_post_4 : decode cX9_post 4 = .ok (.iload_n 1, 1) := by decide +kernel
theorem dX9_post_5 : decode cX9_post 5 = .ok (.invokevirtual 86, 3) := by decide +kernel
theorem dX9_post_8 : decode cX9_post 8 = .ok (.ifCond .eq 14, 3) := by decide +kernel
theorem dX9_post_11 : decode cX9_post 11 = .ok (.iload_n 2, 1) := by decide +kernel
theorem dX9_post_12 : decode cX9_post 12 = .ok (.iconst 0, 1) := by decide +kernel
theorem dX9_post_13 : decode cX9_post 13 = .ok (.sipush 10000, 3) := by decide +kernel
theorem dX9_post_16 : decode cX9_post 16 = .ok (.invokestatic 78, 3) := by decide +kernel
theorem dX9_post_19 : decode cX9_post 19 = .ok (.ifCond .ne 5, 3) := by decide +kernel
theorem dX9_post_22 : decode cX9_post 22 = .ok (.iconst (-1), 1) := by decide +kernel
theorem dX9_post_23 : decode cX9_post 23 = .ok (.ireturn, 1) := by decide +kernel
theorem dX9_post_24 : decode cX9_post 24 = .ok (.aload_n 0, 1) := by decide +kernel
theorem dX9_post_25 : decode cX9_post 25 = .ok (.getfield 63, 3) := by decide +kernel
theorem dX9_post_28 : decode cX9_post 28 = .ok (.invokevirtual 127, 3) := by decide +kernel
theorem dX9_post_31 : decode cX9_post 31 = .ok (.ifCond .eq 8, 3) := by decide +kernel
theorem dX9_post_34 : decode cX9_post 34 = .ok (.bipush (-3), 2) := by decide +kernel
theorem dX9_post_36 : decode cX9_post 36 = .ok (.goto 12, 3) := by decide +kernel
theorem dX9_post_39 : decode cX9_post 39 = .ok (.aload_n 0, 1) := by decide +kernel
theorem dX9_post_40 : decode cX9_post 40 = .ok (.getfield 63, 3) := by decide +kernel
theorem dX9_post_43 : decode cX9_post 43 = .ok (.iload_n 1, 1) := by decide +kernel
theorem dX9_post_44 : decode cX9_post 44 = .ok (.iload_n 2, 1) := by decide +kernel
theorem dX9_post_45 : decode cX9_post 45 = .ok (.invokevirtual 131, 3) := by decide +kernel
theorem dX9_post_48 : decode cX9_post 48 = .ok (.ireturn, 1) := by decide +kernel
theorem dX9_best_0 : decode cX9_best 0 = .ok (.aload_n 0, 1) := by decide +kernel
theorem dX9_best_1 : decode cX9_best 1 = .ok (.getfield 56, 3) := by decide +kernel
theorem dX9_best_4 : decode cX9_best 4 = .ok (.iload_n 1, 1) := by decide +kernel
theorem dX9_best_5 : decode cX9_best 5 = .ok (.invokevirtual 113, 3) := by decide +kernel
theorem dX9_best_8 : decode cX9_best 8 = .ok (.ifCond .ne 5, 3) := by decide +kernel
theorem dX9_best_11 : decode cX9_best 11 = .ok (.iconst (-1), 1) := by decide +kernel
theorem dX9_best_12 : decode cX9_best 12 = .ok (.ireturn, 1) := by decide +kernel
theorem dX9_best_13 : decode cX9_best 13 = .ok (.aload_n 0, 1) := by decide +kernel
theorem dX9_best_14 : decode cX9_best 14 = .ok (.getfield 42, 3) := by decide +kernel
theorem dX9_best_17 : decode cX9_best 17 = .ok (.aload_n 0, 1) := by decide +kernel
theorem dX9_best_18 : decode cX9_best 18 = .ok (.getfield 56, 3) := by decide +kernel
theorem dX9_best_21 : decode cX9_best 21 = .ok (.getfield 124, 3) := by decide +kernel
theorem dX9_best_24 : decode cX9_best 24 = .ok (.iload_n 1, 1) := by decide +kernel
theorem dX9_best_25 : decode cX9_best 25 = .ok (.invokevirtual 118, 3) := by decide +kernel
theorem dX9_best_28 : decode cX9_best 28 = .ok (.invokevirtual 132, 3) := by decide +kernel
theorem dX9_best_31 : decode cX9_best 31 = .ok (.ireturn, 1) := by decide +kernel
theorem dX9_trip_0 : decode cX9_trip 0 = .ok (.aload_n 0, 1) := by decide +kernel
theorem dX9_trip_1 : decode cX9_trip 1 = .ok (.getfield 21, 3) := by decide +kernel
theorem dX9_trip_4 : decode cX9_trip 4 = .ok (.iload_n 1, 1) := by decide +kernel
theorem dX9_trip_5 : decode cX9_trip 5 = .ok (.invokevirtual 135, 3) := by decide +kernel
theorem dX9_trip_8 : decode cX9_trip 8 = .ok (.ifCond .eq 25, 3) := by decide +kernel
theorem dX9_trip_11 : decode cX9_trip 11 = .ok (.aload_n 0, 1) := by decide +kernel
theorem dX9_trip_12 : decode cX9_trip 12 = .ok (.getfield 21, 3) := by decide +kernel
theorem dX9_trip_15 : decode cX9_trip 15 = .ok (.iload_n 2, 1) := by decide +kernel
theorem dX9_trip_16 : decode cX9_trip 16 = .ok (.invokevirtual 138, 3) := by decide +kernel
theorem dX9_trip_19 : decode cX9_trip 19 = .ok (.ifCond .eq 14, 3) := by decide +kernel
theorem dX9_trip_22 : decode cX9_trip 22 = .ok (.aload_n 0, 1) := by decide +kernel
theorem dX9_trip_23 : decode cX9_trip 23 = .ok (.getfield 21, 3) := by decide +kernel
theorem dX9_trip_26 : decode cX9_trip 26 = .ok (.iload_n 3, 1) := by decide +kernel
theorem dX9_trip_27 : decode cX9_trip 27 = .ok (.invokevirtual 138, 3) := by decide +kernel
theorem dX9_trip_30 : decode cX9_trip 30 = .ok (.ifCond .ne 5, 3) := by decide +kernel
theorem dX9_trip_33 : decode cX9_trip 33 = .ok (.iconst (-1), 1) := by decide +kernel
theorem dX9_trip_34 : decode cX9_trip 34 = .ok (.ireturn, 1) := by decide +kernel
theorem dX9_trip_35 : decode cX9_trip 35 = .ok (.iload 4, 2) := by decide +kernel
theorem dX9_trip_37 : decode cX9_trip 37 = .ok (.iconst 0, 1) := by decide +kernel
theorem dX9_trip_38 : decode cX9_trip 38 = .ok (.bipush 30, 2) := by decide +kernel
theorem dX9_trip_40 : decode cX9_trip 40 = .ok (.invokestatic 78, 3) := by decide +kernel
theorem dX9_trip_43 : decode cX9_trip 43 = .ok (.ifCond .eq 15, 3) := by decide +kernel
theorem dX9_trip_46 : decode cX9_trip 46 = .ok (.aload_n 0, 1) := by decide +kernel
theorem dX9_trip_47 : decode cX9_trip 47 = .ok (.getfield 56, 3) := by decide +kernel
theorem dX9_trip_50 : decode cX9_trip 50 = .ok (.iload 5, 2) := by decide +kernel
theorem dX9_trip_52 : decode cX9_trip 52 = .ok (.invokevirtual 113, 3) := by decide +kernel
theorem dX9_trip_55 : decode cX9_trip 55 = .ok (.ifCond .ne 5, 3) := by decide +kernel
theorem dX9_trip_58 : decode cX9_trip 58 = .ok (.iconst (-1), 1) := by decide +kernel
theorem dX9_trip_59 : decode cX9_trip 59 = .ok (.ireturn, 1) := by decide +kernel
theorem dX9_trip_60 : decode cX9_trip 60 = .ok (.aload_n 0, 1) := by decide +kernel
theorem dX9_trip_61 : decode cX9_trip 61 = .ok (.getfield 49, 3) := by decide +kernel
theorem dX9_trip_64 : decode cX9_trip 64 = .ok (.aload_n 0, 1) := by decide +kernel
theorem dX9_trip_65 : decode cX9_trip 65 = .ok (.getfield 21, 3) := by decide +kernel
theorem dX9_trip_68 : decode cX9_trip 68 = .ok (.iload_n 1, 1) := by decide +kernel
theorem dX9_trip_69 : decode cX9_trip 69 = .ok (.iload_n 2, 1) := by decide +kernel
theorem dX9_trip_70 : decode cX9_trip 70 = .ok (.iload_n 3, 1) := by decide +kernel
theorem dX9_trip_71 : decode cX9_trip 71 = .ok (.aload_n 0, 1) := by decide +kernel
theorem dX9_trip_72 : decode cX9_trip 72 = .ok (.getfield 42, 3) := by decide +kernel
theorem dX9_trip_75 : decode cX9_trip 75 = .ok (.getfield 141, 3) := by decide +kernel
theorem dX9_trip_78 : decode cX9_trip 78 = .ok (.iload 4, 2) := by decide +kernel
theorem dX9_trip_80 : decode cX9_trip 80 = .ok (.invokevirtual 118, 3) := by decide +kernel
theorem dX9_trip_83 : decode cX9_trip 83 = .ok (.aload_n 0, 1) := by decide +kernel
theorem dX9_trip_84 : decode cX9_trip 84 = .ok (.getfield 14, 3) := by decide +kernel
theorem dX9_trip_87 : decode cX9_trip 87 = .ok (.iconst 0, 1) := by decide +kernel
theorem dX9_trip_88 : decode cX9_trip 88 = .ok (.invokevirtual 118, 3) := by decide +kernel
theorem dX9_trip_91 : decode cX9_trip 91 = .ok (.invokevirtual 144, 3) := by decide +kernel
theorem dX9_trip_94 : decode cX9_trip 94 = .ok (.aload_n 0, 1) := by decide +kernel
theorem dX9_trip_95 : decode cX9_trip 95 = .ok (.getfield 56, 3) := by decide +kernel
theorem dX9_trip_98 : decode cX9_trip 98 = .ok (.iload 5, 2) := by decide +kernel
theorem dX9_trip_100 : decode cX9_trip 100 = .ok (.aload_n 0, 1) := by decide +kernel
theorem dX9_trip_101 : decode cX9_trip 101 = .ok (.getfield 49, 3) := by decide +kernel
theorem dX9_trip_104 : decode cX9_trip 104 = .ok (.getfield 148, 3) := by decide +kernel
theorem dX9_trip_107 : decode cX9_trip 107 = .ok (.invokevirtual 152, 3) := by decide +kernel
theorem dX9_trip_110 : decode cX9_trip 110 = .ok (.ifCond .ne 6, 3) := by decide +kernel
theorem dX9_trip_113 : decode cX9_trip 113 = .ok (.bipush (-2), 2) := by decide +kernel
theorem dX9_trip_115 : decode cX9_trip 115 = .ok (.ireturn, 1) := by decide +kernel
theorem dX9_trip_116 : decode cX9_trip 116 = .ok (.aload_n 0, 1) := by decide +kernel
theorem dX9_trip_117 : decode cX9_trip 117 = .ok (.aload_n 0, 1) := by decide +kernel
theorem dX9_trip_118 : decode cX9_trip 118 = .ok (.getfield 49, 3) := by decide +kernel
theorem dX9_trip_121 : decode cX9_trip 121 = .ok (.getfield 148, 3) := by decide +kernel
theorem dX9_trip_124 : decode cX9_trip 124 = .ok (.aload_n 0, 1) := by decide +kernel
theorem dX9_trip_125 : decode cX9_trip 125 = .ok (.getfield 56, 3) := by decide +kernel
theorem dX9_trip_128 : decode cX9_trip 128 = .ok (.getfield 124, 3) := by decide +kernel
theorem dX9_trip_131 : decode cX9_trip 131 = .ok (.iload 5, 2) := by decide +kernel
theorem dX9_trip_133 : decode cX9_trip 133 = .ok (.invokevirtual 118, 3) := by decide +kernel
theorem dX9_trip_136 : decode cX9_trip 136 = .ok (.invokevirtual 156, 3) := by decide +kernel
theorem dX9_trip_139 : decode cX9_trip 139 = .ok (.istore 6, 2) := by decide +kernel
theorem dX9_trip_141 : decode cX9_trip 141 = .ok (.iload 6, 2) := by decide +kernel
theorem dX9_trip_143 : decode cX9_trip 143 = .ok (.iconst (-1), 1) := by decide +kernel
theorem dX9_trip_144 : decode cX9_trip 144 = .ok (.if_icmp .ne 6, 3) := by decide +kernel
theorem dX9_trip_147 : decode cX9_trip 147 = .ok (.bipush (-2), 2) := by decide +kernel
theorem dX9_trip_149 : decode cX9_trip 149 = .ok (.ireturn, 1) := by decide +kernel
theorem dX9_trip_150 : decode cX9_trip 150 = .ok (.iload 6, 2) := by decide +kernel
theorem dX9_trip_152 : decode cX9_trip 152 = .ok (.sipush 5000, 3) := by decide +kernel
theorem dX9_trip_155 : decode cX9_trip 155 = .ok (.if_icmp .le 6, 3) := by decide +kernel
theorem dX9_trip_158 : decode cX9_trip 158 = .ok (.bipush (-3), 2) := by decide +kernel
theorem dX9_trip_160 : decode cX9_trip 160 = .ok (.ireturn, 1) := by decide +kernel
theorem dX9_trip_161 : decode cX9_trip 161 = .ok (.aload_n 0, 1) := by decide +kernel
theorem dX9_trip_162 : decode cX9_trip 162 = .ok (.iload 4, 2) := by decide +kernel
theorem dX9_trip_164 : decode cX9_trip 164 = .ok (.iload 5, 2) := by decide +kernel
theorem dX9_trip_166 : decode cX9_trip 166 = .ok (.invokevirtual 159, 3) := by decide +kernel
theorem dX9_trip_169 : decode cX9_trip 169 = .ok (.aload_n 0, 1) := by decide +kernel
theorem dX9_trip_170 : decode cX9_trip 170 = .ok (.iload 6, 2) := by decide +kernel
theorem dX9_trip_172 : decode cX9_trip 172 = .ok (.aload_n 0, 1) := by decide +kernel
theorem dX9_trip_173 : decode cX9_trip 173 = .ok (.getfield 162, 3) := by decide +kernel
theorem dX9_trip_176 : decode cX9_trip 176 = .ok (.isub, 1) := by decide +kernel
theorem dX9_trip_177 : decode cX9_trip 177 = .ok (.invokevirtual 165, 3) := by decide +kernel
theorem dX9_trip_180 : decode cX9_trip 180 = .ok (.aload_n 0, 1) := by decide +kernel
theorem dX9_trip_181 : decode cX9_trip 181 = .ok (.getfield 49, 3) := by decide +kernel
theorem dX9_trip_184 : decode cX9_trip 184 = .ok (.getfield 148, 3) := by decide +kernel
theorem dX9_trip_187 : decode cX9_trip 187 = .ok (.ireturn, 1) := by decide +kernel
theorem dX9_hours_0 : decode cX9_hours 0 = .ok (.iload_n 1, 1) := by decide +kernel
theorem dX9_hours_1 : decode cX9_hours 1 = .ok (.iconst 1, 1) := by decide +kernel
theorem dX9_hours_2 : decode cX9_hours 2 = .ok (.sipush 200, 3) := by decide +kernel
theorem dX9_hours_5 : decode cX9_hours 5 = .ok (.invokestatic 78, 3) := by decide +kernel
theorem dX9_hours_8 : decode cX9_hours 8 = .ok (.ifCond .ne 5, 3) := by decide +kernel
theorem dX9_hours_11 : decode cX9_hours 11 = .ok (.iconst (-1), 1) := by decide +kernel
theorem dX9_hours_12 : decode cX9_hours 12 = .ok (.ireturn, 1) := by decide +kernel
theorem dX9_hours_13 : decode cX9_hours 13 = .ok (.aload_n 0, 1) := by decide +kernel
theorem dX9_hours_14 : decode cX9_hours 14 = .ok (.getfield 162, 3) := by decide +kernel
theorem dX9_hours_17 : decode cX9_hours 17 = .ok (.iload_n 1, 1) := by decide +kernel
theorem dX9_hours_18 : decode cX9_hours 18 = .ok (.iadd, 1) := by decide +kernel
theorem dX9_hours_19 : decode cX9_hours 19 = .ok (.sipush 5000, 3) := by decide +kernel
theorem dX9_hours_22 : decode cX9_hours 22 = .ok (.if_icmp .le 6, 3) := by decide +kernel
theorem dX9_hours_25 : decode cX9_hours 25 = .ok (.bipush (-3), 2) := by decide +kernel
theorem dX9_hours_27 : decode cX9_hours 27 = .ok (.ireturn, 1) := by decide +kernel
theorem dX9_hours_28 : decode cX9_hours 28 = .ok (.aload_n 0, 1) := by decide +kernel
theorem dX9_hours_29 : decode cX9_hours 29 = .ok (.iload_n 1, 1) := by decide +kernel
theorem dX9_hours_30 : decode cX9_hours 30 = .ok (.invokevirtual 165, 3) := by decide +kernel
theorem dX9_hours_33 : decode cX9_hours 33 = .ok (.aload_n 0, 1) := by decide +kernel
theorem dX9_hours_34 : decode cX9_hours 34 = .ok (.getfield 162, 3) := by decide +kernel
theorem dX9_hours_37 : decode cX9_hours 37 = .ok (.ireturn, 1) := by decide +kernel
theorem dX9_sound_0 : decode cX9_sound 0 = .ok (.aload_n 0, 1) := by decide +kernel
theorem dX9_sound_1 : decode cX9_sound 1 = .ok (.getfield 70, 3) := by decide +kernel
theorem dX9_sound_4 : decode cX9_sound 4 = .ok (.iload_n 1, 1) := by decide +kernel
theorem dX9_sound_5 : decode cX9_sound 5 = .ok (.invokevirtual 168, 3) := by decide +kernel
theorem dX9_sound_8 : decode cX9_sound 8 = .ok (.ifCond .ne 5, 3) := by decide +kernel
theorem dX9_sound_11 : decode cX9_sound 11 = .ok (.iconst (-1), 1) := by decide +kernel
theorem dX9_sound_12 : decode cX9_sound 12 = .ok (.ireturn, 1) := by decide +kernel
theorem dX9_sound_13 : decode cX9_sound 13 = .ok (.aload_n 0, 1) := by decide +kernel
theorem dX9_sound_14 : decode cX9_sound 14 = .ok (.getfield 70, 3) := by decide +kernel
theorem dX9_sound_17 : decode cX9_sound 17 = .ok (.iload_n 1, 1) := by decide +kernel
theorem dX9_sound_18 : decode cX9_sound 18 = .ok (.aload_n 0, 1) := by decide +kernel
theorem dX9_sound_19 : decode cX9_sound 19 = .ok (.getfield 21, 3) := by decide +kernel
theorem dX9_sound_22 : decode cX9_sound 22 = .ok (.invokevirtual 169, 3) := by decide +kernel
theorem dX9_sound_25 : decode cX9_sound 25 = .ok (.iconst 0, 1) := by decide +kernel
theorem dX9_sound_26 : decode cX9_sound 26 = .ok (.ireturn, 1) := by decide +kernel
theorem dX9_lose_0 : decode cX9_lose 0 = .ok (.aload_n 0, 1) := by decide +kernel
theorem dX9_lose_1 : decode cX9_lose 1 = .ok (.getfield 70, 3) := by decide +kernel
theorem dX9_lose_4 : decode cX9_lose 4 = .ok (.iload_n 1, 1) := by decide +kernel
theorem dX9_lose_5 : decode cX9_lose 5 = .ok (.invokevirtual 168, 3) := by decide +kernel
theorem dX9_lose_8 : decode cX9_lose 8 = .ok (.ifCond .eq 14, 3) := by decide +kernel
theorem dX9_lose_11 : decode cX9_lose 11 = .ok (.aload_n 0, 1) := by decide +kernel
theorem dX9_lose_12 : decode cX9_lose 12 = .ok (.getfield 21, 3) := by decide +kernel
theorem dX9_lose_15 : decode cX9_lose 15 = .ok (.iload_n 2, 1) := by decide +kernel
theorem dX9_lose_16 : decode cX9_lose 16 = .ok (.invokevirtual 86, 3) := by decide +kernel
theorem dX9_lose_19 : decode cX9_lose 19 = .ok (.ifCond .ne 5, 3) := by decide +kernel
theorem dX9_lose_22 : decode cX9_lose 22 = .ok (.iconst (-1), 1) := by decide +kernel
theorem dX9_lose_23 : decode cX9_lose 23 = .ok (.ireturn, 1) := by decide +kernel
theorem dX9_lose_24 : decode cX9_lose 24 = .ok (.aload_n 0, 1) := by decide +kernel
theorem dX9_lose_25 : decode cX9_lose 25 = .ok (.getfield 70, 3) := by decide +kernel
theorem dX9_lose_28 : decode cX9_lose 28 = .ok (.iload_n 1, 1) := by decide +kernel
theorem dX9_lose_29 : decode cX9_lose 29 = .ok (.invokevirtual 173, 3) := by decide +kernel
theorem dX9_lose_32 : decode cX9_lose 32 = .ok (.ifCond .eq 6, 3) := by decide +kernel
theorem dX9_lose_35 : decode cX9_lose 35 = .ok (.bipush (-2), 2) := by decide +kernel
theorem dX9_lose_37 : decode cX9_lose 37 = .ok (.ireturn, 1) := by decide +kernel
theorem dX9_lose_38 : decode cX9_lose 38 = .ok (.aload_n 0, 1) := by decide +kernel
theorem dX9_lose_39 : decode cX9_lose 39 = .ok (.getfield 70, 3) := by decide +kernel
theorem dX9_lose_42 : decode cX9_lose 42 = .ok (.iload_n 1, 1) := by decide +kernel
theorem dX9_lose_43 : decode cX9_lose 43 = .ok (.iload_n 2, 1) := by decide +kernel
theorem dX9_lose_44 : decode cX9_lose 44 = .ok (.invokevirtual 176, 3) := by decide +kernel
theorem dX9_lose_47 : decode cX9_lose 47 = .ok (.ifCond .eq 7, 3) := by decide +kernel
theorem dX9_lose_50 : decode cX9_lose 50 = .ok (.iconst 1, 1) := by decide +kernel
theorem dX9_lose_51 : decode cX9_lose 51 = .ok (.goto 4, 3) := by decide +kernel
theorem dX9_lose_54 : decode cX9_lose 54 = .ok (.iconst 0, 1) := by decide +kernel
theorem dX9_lose_55 : decode cX9_lose 55 = .ok (.ireturn, 1) := by decide +kernel
theorem dX9_join_0 : decode cX9_join 0 = .ok (.aload_n 0, 1) := by decide +kernel
theorem dX9_join_1 : decode cX9_join 1 = .ok (.getfield 70, 3) := by decide +kernel
theorem dX9_join_4 : decode cX9_join 4 = .ok (.iload_n 1, 1) := by decide +kernel
theorem dX9_join_5 : decode cX9_join 5 = .ok (.invokevirtual 168, 3) := by decide +kernel
theorem dX9_join_8 : decode cX9_join 8 = .ok (.ifCond .eq 14, 3) := by decide +kernel
theorem dX9_join_11 : decode cX9_join 11 = .ok (.aload_n 0, 1) := by decide +kernel
theorem dX9_join_12 : decode cX9_join 12 = .ok (.getfield 70, 3) := by decide +kernel
theorem dX9_join_15 : decode cX9_join 15 = .ok (.iload_n 2, 1) := by decide +kernel
theorem dX9_join_16 : decode cX9_join 16 = .ok (.invokevirtual 168, 3) := by decide +kernel
theorem dX9_join_19 : decode cX9_join 19 = .ok (.ifCond .ne 5, 3) := by decide +kernel
theorem dX9_join_22 : decode cX9_join 22 = .ok (.iconst (-1), 1) := by decide +kernel
theorem dX9_join_23 : decode cX9_join 23 = .ok (.ireturn, 1) := by decide +kernel
theorem dX9_join_24 : decode cX9_join 24 = .ok (.aload_n 0, 1) := by decide +kernel
theorem dX9_join_25 : decode cX9_join 25 = .ok (.getfield 70, 3) := by decide +kernel
theorem dX9_join_28 : decode cX9_join 28 = .ok (.iload_n 1, 1) := by decide +kernel
theorem dX9_join_29 : decode cX9_join 29 = .ok (.invokevirtual 173, 3) := by decide +kernel
theorem dX9_join_32 : decode cX9_join 32 = .ok (.ifCond .ne 14, 3) := by decide +kernel
theorem dX9_join_35 : decode cX9_join 35 = .ok (.aload_n 0, 1) := by decide +kernel
theorem dX9_join_36 : decode cX9_join 36 = .ok (.getfield 70, 3) := by decide +kernel
theorem dX9_join_39 : decode cX9_join 39 = .ok (.iload_n 2, 1) := by decide +kernel
theorem dX9_join_40 : decode cX9_join 40 = .ok (.invokevirtual 173, 3) := by decide +kernel
theorem dX9_join_43 : decode cX9_join 43 = .ok (.ifCond .eq 6, 3) := by decide +kernel
theorem dX9_join_46 : decode cX9_join 46 = .ok (.bipush (-2), 2) := by decide +kernel
theorem dX9_join_48 : decode cX9_join 48 = .ok (.ireturn, 1) := by decide +kernel
theorem dX9_join_49 : decode cX9_join 49 = .ok (.aload_n 0, 1) := by decide +kernel
theorem dX9_join_50 : decode cX9_join 50 = .ok (.getfield 70, 3) := by decide +kernel
theorem dX9_join_53 : decode cX9_join 53 = .ok (.iload_n 1, 1) := by decide +kernel
theorem dX9_join_54 : decode cX9_join 54 = .ok (.iload_n 2, 1) := by decide +kernel
theorem dX9_join_55 : decode cX9_join 55 = .ok (.aload_n 0, 1) := by decide +kernel
theorem dX9_join_56 : decode cX9_join 56 = .ok (.getfield 21, 3) := by decide +kernel
theorem dX9_join_59 : decode cX9_join 59 = .ok (.invokevirtual 82, 3) := by decide +kernel
theorem dX9_join_62 : decode cX9_join 62 = .ok (.invokevirtual 179, 3) := by decide +kernel
theorem dX9_join_65 : decode cX9_join 65 = .ok (.ireturn, 1) := by decide +kernel
theorem dX9_between_0 : decode cX9_between 0 = .ok (.aload_n 0, 1) := by decide +kernel
theorem dX9_between_1 : decode cX9_between 1 = .ok (.getfield 70, 3) := by decide +kernel
theorem dX9_between_4 : decode cX9_between 4 = .ok (.iload_n 1, 1) := by decide +kernel
theorem dX9_between_5 : decode cX9_between 5 = .ok (.invokevirtual 168, 3) := by decide +kernel
theorem dX9_between_8 : decode cX9_between 8 = .ok (.ifCond .eq 23, 3) := by decide +kernel
theorem dX9_between_11 : decode cX9_between 11 = .ok (.aload_n 0, 1) := by decide +kernel
theorem dX9_between_12 : decode cX9_between 12 = .ok (.getfield 70, 3) := by decide +kernel
theorem dX9_between_15 : decode cX9_between 15 = .ok (.iload_n 2, 1) := by decide +kernel
theorem dX9_between_16 : decode cX9_between 16 = .ok (.invokevirtual 168, 3) := by decide +kernel
theorem dX9_between_19 : decode cX9_between 19 = .ok (.ifCond .eq 12, 3) := by decide +kernel
theorem dX9_between_22 : decode cX9_between 22 = .ok (.iload_n 3, 1) := by decide +kernel
theorem dX9_between_23 : decode cX9_between 23 = .ok (.iconst 0, 1) := by decide +kernel
theorem dX9_between_24 : decode cX9_between 24 = .ok (.iconst 2, 1) := by decide +kernel
theorem dX9_between_25 : decode cX9_between 25 = .ok (.invokestatic 78, 3) := by decide +kernel
theorem dX9_between_28 : decode cX9_between 28 = .ok (.ifCond .ne 6, 3) := by decide +kernel
theorem dX9_between_31 : decode cX9_between 31 = .ok (.ldc 183, 2) := by decide +kernel
theorem dX9_between_33 : decode cX9_between 33 = .ok (.ireturn, 1) := by decide +kernel
theorem dX9_between_34 : decode cX9_between 34 = .ok (.aload_n 0, 1) := by decide +kernel
theorem dX9_between_35 : decode cX9_between 35 = .ok (.getfield 70, 3) := by decide +kernel
theorem dX9_between_38 : decode cX9_between 38 = .ok (.iload_n 1, 1) := by decide +kernel
theorem dX9_between_39 : decode cX9_between 39 = .ok (.invokevirtual 173, 3) := by decide +kernel
theorem dX9_between_42 : decode cX9_between 42 = .ok (.ifCond .ne 14, 3) := by decide +kernel
theorem dX9_between_45 : decode cX9_between 45 = .ok (.aload_n 0, 1) := by decide +kernel
theorem dX9_between_46 : decode cX9_between 46 = .ok (.getfield 70, 3) := by decide +kernel
theorem dX9_between_49 : decode cX9_between 49 = .ok (.iload_n 2, 1) := by decide +kernel
theorem dX9_between_50 : decode cX9_between 50 = .ok (.invokevirtual 173, 3) := by decide +kernel
theorem dX9_between_53 : decode cX9_between 53 = .ok (.ifCond .eq 6, 3) := by decide +kernel
theorem dX9_between_56 : decode cX9_between 56 = .ok (.ldc 184, 2) := by decide +kernel
theorem dX9_between_58 : decode cX9_between 58 = .ok (.ireturn, 1) := by decide +kernel
theorem dX9_between_59 : decode cX9_between 59 = .ok (.iload_n 3, 1) := by decide +kernel
theorem dX9_between_60 : decode cX9_between 60 = .ok (.ifCond .ne 20, 3) := by decide +kernel
theorem dX9_between_63 : decode cX9_between 63 = .ok (.aload_n 0, 1) := by decide +kernel
theorem dX9_between_64 : decode cX9_between 64 = .ok (.getfield 70, 3) := by decide +kernel
theorem dX9_between_67 : decode cX9_between 67 = .ok (.iload_n 1, 1) := by decide +kernel
theorem dX9_between_68 : decode cX9_between 68 = .ok (.iload_n 2, 1) := by decide +kernel
theorem dX9_between_69 : decode cX9_between 69 = .ok (.aload_n 0, 1) := by decide +kernel
theorem dX9_between_70 : decode cX9_between 70 = .ok (.getfield 21, 3) := by decide +kernel
theorem dX9_between_73 : decode cX9_between 73 = .ok (.invokevirtual 82, 3) := by decide +kernel
theorem dX9_between_76 : decode cX9_between 76 = .ok (.invokevirtual 185, 3) := by decide +kernel
theorem dX9_between_79 : decode cX9_between 79 = .ok (.ireturn, 1) := by decide +kernel
theorem dX9_between_80 : decode cX9_between 80 = .ok (.iload_n 3, 1) := by decide +kernel
theorem dX9_between_81 : decode cX9_between 81 = .ok (.iconst 1, 1) := by decide +kernel
theorem dX9_between_82 : decode cX9_between 82 = .ok (.if_icmp .ne 25, 3) := by decide +kernel
theorem dX9_between_85 : decode cX9_between 85 = .ok (.aload_n 0, 1) := by decide +kernel
theorem dX9_between_86 : decode cX9_between 86 = .ok (.getfield 70, 3) := by decide +kernel
theorem dX9_between_89 : decode cX9_between 89 = .ok (.iload_n 1, 1) := by decide +kernel
theorem dX9_between_90 : decode cX9_between 90 = .ok (.iload_n 2, 1) := by decide +kernel
theorem dX9_between_91 : decode cX9_between 91 = .ok (.aload_n 0, 1) := by decide +kernel
theorem dX9_between_92 : decode cX9_between 92 = .ok (.getfield 21, 3) := by decide +kernel
theorem dX9_between_95 : decode cX9_between 95 = .ok (.aload_n 0, 1) := by decide +kernel
theorem dX9_between_96 : decode cX9_between 96 = .ok (.getfield 14, 3) := by decide +kernel
theorem dX9_between_99 : decode cX9_between 99 = .ok (.iconst 0, 1) := by decide +kernel
theorem dX9_between_100 : decode cX9_between 100 = .ok (.invokevirtual 118, 3) := by decide +kernel
theorem dX9_between_103 : decode cX9_between 103 = .ok (.invokevirtual 188, 3) := by decide +kernel
theorem dX9_between_106 : decode cX9_between 106 = .ok (.ireturn, 1) := by decide +kernel
theorem dX9_between_107 : decode cX9_between 107 = .ok (.aload_n 0, 1) := by decide +kernel
theorem dX9_between_108 : decode cX9_between 108 = .ok (.getfield 70, 3) := by decide +kernel
theorem dX9_between_111 : decode cX9_between 111 = .ok (.iload_n 1, 1) := by decide +kernel
theorem dX9_between_112 : decode cX9_between 112 = .ok (.iload_n 2, 1) := by decide +kernel
theorem dX9_between_113 : decode cX9_between 113 = .ok (.aload_n 0, 1) := by decide +kernel
theorem dX9_between_114 : decode cX9_between 114 = .ok (.getfield 21, 3) := by decide +kernel
theorem dX9_between_117 : decode cX9_between 117 = .ok (.invokevirtual 192, 3) := by decide +kernel
theorem dX9_between_120 : decode cX9_between 120 = .ok (.ireturn, 1) := by decide +kernel
theorem dX9_sounded_0 : decode cX9_sounded 0 = .ok (.aload_n 0, 1) := by decide +kernel
theorem dX9_sounded_1 : decode cX9_sounded 1 = .ok (.getfield 70, 3) := by decide +kernel
theorem dX9_sounded_4 : decode cX9_sounded 4 = .ok (.iload_n 1, 1) := by decide +kernel
theorem dX9_sounded_5 : decode cX9_sounded 5 = .ok (.invokevirtual 168, 3) := by decide +kernel
theorem dX9_sounded_8 : decode cX9_sounded 8 = .ok (.ifCond .eq 14, 3) := by decide +kernel
theorem dX9_sounded_11 : decode cX9_sounded 11 = .ok (.aload_n 0, 1) := by decide +kernel
theorem dX9_sounded_12 : decode cX9_sounded 12 = .ok (.getfield 21, 3) := by decide +kernel
theorem dX9_sounded_15 : decode cX9_sounded 15 = .ok (.iload_n 2, 1) := by decide +kernel
theorem dX9_sounded_16 : decode cX9_sounded 16 = .ok (.invokevirtual 86, 3) := by decide +kernel
theorem dX9_sounded_19 : decode cX9_sounded 19 = .ok (.ifCond .ne 5, 3) := by decide +kernel
theorem dX9_sounded_22 : decode cX9_sounded 22 = .ok (.iconst (-1), 1) := by decide +kernel
theorem dX9_sounded_23 : decode cX9_sounded 23 = .ok (.ireturn, 1) := by decide +kernel
theorem dX9_sounded_24 : decode cX9_sounded 24 = .ok (.aload_n 0, 1) := by decide +kernel
theorem dX9_sounded_25 : decode cX9_sounded 25 = .ok (.getfield 70, 3) := by decide +kernel
theorem dX9_sounded_28 : decode cX9_sounded 28 = .ok (.iload_n 1, 1) := by decide +kernel
theorem dX9_sounded_29 : decode cX9_sounded 29 = .ok (.invokevirtual 173, 3) := by decide +kernel
theorem dX9_sounded_32 : decode cX9_sounded 32 = .ok (.ifCond .eq 8, 3) := by decide +kernel
theorem dX9_sounded_35 : decode cX9_sounded 35 = .ok (.bipush (-2), 2) := by decide +kernel
theorem dX9_sounded_37 : decode cX9_sounded 37 = .ok (.goto 12, 3) := by decide +kernel
theorem dX9_sounded_40 : decode cX9_sounded 40 = .ok (.aload_n 0, 1) := by decide +kernel
theorem dX9_sounded_41 : decode cX9_sounded 41 = .ok (.getfield 70, 3) := by decide +kernel
theorem dX9_sounded_44 : decode cX9_sounded 44 = .ok (.iload_n 1, 1) := by decide +kernel
theorem dX9_sounded_45 : decode cX9_sounded 45 = .ok (.iload_n 2, 1) := by decide +kernel
theorem dX9_sounded_46 : decode cX9_sounded 46 = .ok (.invokevirtual 196, 3) := by decide +kernel
theorem dX9_sounded_49 : decode cX9_sounded 49 = .ok (.ireturn, 1) := by decide +kernel
theorem dX9_cell_0 : decode cX9_cell 0 = .ok (.aload_n 0, 1) := by decide +kernel
theorem dX9_cell_1 : decode cX9_cell 1 = .ok (.getfield 21, 3) := by decide +kernel
theorem dX9_cell_4 : decode cX9_cell 4 = .ok (.iload_n 1, 1) := by decide +kernel
theorem dX9_cell_5 : decode cX9_cell 5 = .ok (.invokevirtual 86, 3) := by decide +kernel
theorem dX9_cell_8 : decode cX9_cell 8 = .ok (.ifCond .ne 5, 3) := by decide +kernel
theorem dX9_cell_11 : decode cX9_cell 11 = .ok (.iconst (-1), 1) := by decide +kernel
theorem dX9_cell_12 : decode cX9_cell 12 = .ok (.ireturn, 1) := by decide +kernel
theorem dX9_cell_13 : decode cX9_cell 13 = .ok (.iload_n 2, 1) := by decide +kernel
theorem dX9_cell_14 : decode cX9_cell 14 = .ok (.tableswitch 78 0 3 #[30, 42, 54, 66], 30) := by decide +kernel
theorem dX9_cell_44 : decode cX9_cell 44 = .ok (.aload_n 0, 1) := by decide +kernel
theorem dX9_cell_45 : decode cX9_cell 45 = .ok (.getfield 21, 3) := by decide +kernel
theorem dX9_cell_48 : decode cX9_cell 48 = .ok (.getfield 90, 3) := by decide +kernel
theorem dX9_cell_51 : decode cX9_cell 51 = .ok (.iload_n 1, 1) := by decide +kernel
theorem dX9_cell_52 : decode cX9_cell 52 = .ok (.invokevirtual 118, 3) := by decide +kernel
theorem dX9_cell_55 : decode cX9_cell 55 = .ok (.ireturn, 1) := by decide +kernel
theorem dX9_cell_56 : decode cX9_cell 56 = .ok (.aload_n 0, 1) := by decide +kernel
theorem dX9_cell_57 : decode cX9_cell 57 = .ok (.getfield 21, 3) := by decide +kernel
theorem dX9_cell_60 : decode cX9_cell 60 = .ok (.getfield 97, 3) := by decide +kernel
theorem dX9_cell_63 : decode cX9_cell 63 = .ok (.iload_n 1, 1) := by decide +kernel
theorem dX9_cell_64 : decode cX9_cell 64 = .ok (.invokevirtual 118, 3) := by decide +kernel
theorem dX9_cell_67 : decode cX9_cell 67 = .ok (.ireturn, 1) := by decide +kernel
theorem dX9_cell_68 : decode cX9_cell 68 = .ok (.aload_n 0, 1) := by decide +kernel
theorem dX9_cell_69 : decode cX9_cell 69 = .ok (.getfield 28, 3) := by decide +kernel
theorem dX9_cell_72 : decode cX9_cell 72 = .ok (.getfield 199, 3) := by decide +kernel
theorem dX9_cell_75 : decode cX9_cell 75 = .ok (.iload_n 1, 1) := by decide +kernel
theorem dX9_cell_76 : decode cX9_cell 76 = .ok (.invokevirtual 118, 3) := by decide +kernel
theorem dX9_cell_79 : decode cX9_cell 79 = .ok (.ireturn, 1) := by decide +kernel
theorem dX9_cell_80 : decode cX9_cell 80 = .ok (.aload_n 0, 1) := by decide +kernel
theorem dX9_cell_81 : decode cX9_cell 81 = .ok (.getfield 28, 3) := by decide +kernel
theorem dX9_cell_84 : decode cX9_cell 84 = .ok (.getfield 202, 3) := by decide +kernel
theorem dX9_cell_87 : decode cX9_cell 87 = .ok (.iload_n 1, 1) := by decide +kernel
theorem dX9_cell_88 : decode cX9_cell 88 = .ok (.invokevirtual 118, 3) := by decide +kernel
theorem dX9_cell_91 : decode cX9_cell 91 = .ok (.ireturn, 1) := by decide +kernel
theorem dX9_cell_92 : decode cX9_cell 92 = .ok (.iconst (-1), 1) := by decide +kernel
theorem dX9_cell_93 : decode cX9_cell 93 = .ok (.ireturn, 1) := by decide +kernel
theorem dX9_about_0 : decode cX9_about 0 = .ok (.aload_n 0, 1) := by decide +kernel
theorem dX9_about_1 : decode cX9_about 1 = .ok (.getfield 56, 3) := by decide +kernel
theorem dX9_about_4 : decode cX9_about 4 = .ok (.iload_n 1, 1) := by decide +kernel
theorem dX9_about_5 : decode cX9_about 5 = .ok (.invokevirtual 113, 3) := by decide +kernel
theorem dX9_about_8 : decode cX9_about 8 = .ok (.ifCond .ne 5, 3) := by decide +kernel
theorem dX9_about_11 : decode cX9_about 11 = .ok (.iconst (-1), 1) := by decide +kernel
theorem dX9_about_12 : decode cX9_about 12 = .ok (.ireturn, 1) := by decide +kernel
theorem dX9_about_13 : decode cX9_about 13 = .ok (.iload_n 2, 1) := by decide +kernel
theorem dX9_about_14 : decode cX9_about 14 = .ok (.tableswitch 62 0 2 #[26, 38, 50], 26) := by decide +kernel
theorem dX9_about_40 : decode cX9_about 40 = .ok (.aload_n 0, 1) := by decide +kernel
theorem dX9_about_41 : decode cX9_about 41 = .ok (.getfield 56, 3) := by decide +kernel
theorem dX9_about_44 : decode cX9_about 44 = .ok (.getfield 115, 3) := by decide +kernel
theorem dX9_about_47 : decode cX9_about 47 = .ok (.iload_n 1, 1) := by decide +kernel
theorem dX9_about_48 : decode cX9_about 48 = .ok (.invokevirtual 118, 3) := by decide +kernel
theorem dX9_about_51 : decode cX9_about 51 = .ok (.ireturn, 1) := by decide +kernel
theorem dX9_about_52 : decode cX9_about 52 = .ok (.aload_n 0, 1) := by decide +kernel
theorem dX9_about_53 : decode cX9_about 53 = .ok (.getfield 56, 3) := by decide +kernel
theorem dX9_about_56 : decode cX9_about 56 = .ok (.getfield 121, 3) := by decide +kernel
theorem dX9_about_59 : decode cX9_about 59 = .ok (.iload_n 1, 1) := by decide +kernel
theorem dX9_about_60 : decode cX9_about 60 = .ok (.invokevirtual 118, 3) := by decide +kernel
theorem dX9_about_63 : decode cX9_about 63 = .ok (.ireturn, 1) := by decide +kernel
theorem dX9_about_64 : decode cX9_about 64 = .ok (.aload_n 0, 1) := by decide +kernel
theorem dX9_about_65 : decode cX9_about 65 = .ok (.getfield 56, 3) := by decide +kernel
theorem dX9_about_68 : decode cX9_about 68 = .ok (.getfield 124, 3) := by decide +kernel
theorem dX9_about_71 : decode cX9_about 71 = .ok (.iload_n 1, 1) := by decide +kernel
theorem dX9_about_72 : decode cX9_about 72 = .ok (.invokevirtual 118, 3) := by decide +kernel
theorem dX9_about_75 : decode cX9_about 75 = .ok (.ireturn, 1) := by decide +kernel
theorem dX9_about_76 : decode cX9_about 76 = .ok (.iconst (-1), 1) := by decide +kernel
theorem dX9_about_77 : decode cX9_about 77 = .ok (.ireturn, 1) := by decide +kernel
theorem dX9_broken_0 : decode cX9_broken 0 = .ok (.aload_n 0, 1) := by decide +kernel
theorem dX9_broken_1 : decode cX9_broken 1 = .ok (.getfield 63, 3) := by decide +kernel
theorem dX9_broken_4 : decode cX9_broken 4 = .ok (.iload_n 1, 1) := by decide +kernel
theorem dX9_broken_5 : decode cX9_broken 5 = .ok (.invokevirtual 205, 3) := by decide +kernel
theorem dX9_broken_8 : decode cX9_broken 8 = .ok (.ifCond .eq 17, 3) := by decide +kernel
theorem dX9_broken_11 : decode cX9_broken 11 = .ok (.aload_n 0, 1) := by decide +kernel
theorem dX9_broken_12 : decode cX9_broken 12 = .ok (.getfield 63, 3) := by decide +kernel
theorem dX9_broken_15 : decode cX9_broken 15 = .ok (.getfield 206, 3) := by decide +kernel
theorem dX9_broken_18 : decode cX9_broken 18 = .ok (.iload_n 1, 1) := by decide +kernel
theorem dX9_broken_19 : decode cX9_broken 19 = .ok (.invokevirtual 118, 3) := by decide +kernel
theorem dX9_broken_22 : decode cX9_broken 22 = .ok (.goto 4, 3) := by decide +kernel
theorem dX9_broken_25 : decode cX9_broken 25 = .ok (.iconst (-1), 1) := by decide +kernel
theorem dX9_broken_26 : decode cX9_broken 26 = .ok (.ireturn, 1) := by decide +kernel
theorem dX9_count_0 : decode cX9_count 0 = .ok (.iload_n 1, 1) := by decide +kernel
theorem dX9_count_1 : decode cX9_count 1 = .ok (.tableswitch 138 0 10 #[59, 67, 75, 80, 85, 90, 98, 106, 114, 122, 130], 59) := by decide +kernel
theorem dX9_count_60 : decode cX9_count 60 = .ok (.aload_n 0, 1) := by decide +kernel
theorem dX9_count_61 : decode cX9_count 61 = .ok (.getfield 21, 3) := by decide +kernel
theorem dX9_count_64 : decode cX9_count 64 = .ok (.getfield 209, 3) := by decide +kernel
theorem dX9_count_67 : decode cX9_count 67 = .ok (.ireturn, 1) := by decide +kernel
theorem dX9_count_68 : decode cX9_count 68 = .ok (.aload_n 0, 1) := by decide +kernel
theorem dX9_count_69 : decode cX9_count 69 = .ok (.getfield 21, 3) := by decide +kernel
theorem dX9_count_72 : decode cX9_count 72 = .ok (.getfield 212, 3) := by decide +kernel
theorem dX9_count_75 : decode cX9_count 75 = .ok (.ireturn, 1) := by decide +kernel
theorem dX9_count_76 : decode cX9_count 76 = .ok (.aload_n 0, 1) := by decide +kernel
theorem dX9_count_77 : decode cX9_count 77 = .ok (.getfield 162, 3) := by decide +kernel
theorem dX9_count_80 : decode cX9_count 80 = .ok (.ireturn, 1) := by decide +kernel
theorem dX9_count_81 : decode cX9_count 81 = .ok (.aload_n 0, 1) := by decide +kernel
theorem dX9_count_82 : decode cX9_count 82 = .ok (.getfield 215, 3) := by decide +kernel
theorem dX9_count_85 : decode cX9_count 85 = .ok (.ireturn, 1) := by decide +kernel
theorem dX9_count_86 : decode cX9_count 86 = .ok (.aload_n 0, 1) := by decide +kernel
theorem dX9_count_87 : decode cX9_count 87 = .ok (.getfield 218, 3) := by decide +kernel
theorem dX9_count_90 : decode cX9_count 90 = .ok (.ireturn, 1) := by decide +kernel
theorem dX9_count_91 : decode cX9_count 91 = .ok (.aload_n 0, 1) := by decide +kernel
theorem dX9_count_92 : decode cX9_count 92 = .ok (.getfield 28, 3) := by decide +kernel
theorem dX9_count_95 : decode cX9_count 95 = .ok (.getfield 221, 3) := by decide +kernel
theorem dX9_count_98 : decode cX9_count 98 = .ok (.ireturn, 1) := by decide +kernel
theorem dX9_count_99 : decode cX9_count 99 = .ok (.aload_n 0, 1) := by decide +kernel
theorem dX9_count_100 : decode cX9_count 100 = .ok (.getfield 28, 3) := by decide +kernel
theorem dX9_count_103 : decode cX9_count 103 = .ok (.getfield 224, 3) := by decide +kernel
theorem dX9_count_106 : decode cX9_count 106 = .ok (.ireturn, 1) := by decide +kernel
theorem dX9_count_107 : decode cX9_count 107 = .ok (.aload_n 0, 1) := by decide +kernel
theorem dX9_count_108 : decode cX9_count 108 = .ok (.getfield 28, 3) := by decide +kernel
theorem dX9_count_111 : decode cX9_count 111 = .ok (.getfield 227, 3) := by decide +kernel
theorem dX9_count_114 : decode cX9_count 114 = .ok (.ireturn, 1) := by decide +kernel
theorem dX9_count_115 : decode cX9_count 115 = .ok (.aload_n 0, 1) := by decide +kernel
theorem dX9_count_116 : decode cX9_count 116 = .ok (.getfield 21, 3) := by decide +kernel
theorem dX9_count_119 : decode cX9_count 119 = .ok (.getfield 230, 3) := by decide +kernel
theorem dX9_count_122 : decode cX9_count 122 = .ok (.ireturn, 1) := by decide +kernel
theorem dX9_count_123 : decode cX9_count 123 = .ok (.aload_n 0, 1) := by decide +kernel
theorem dX9_count_124 : decode cX9_count 124 = .ok (.getfield 21, 3) := by decide +kernel
theorem dX9_count_127 : decode cX9_count 127 = .ok (.invokevirtual 233, 3) := by decide +kernel
theorem dX9_count_130 : decode cX9_count 130 = .ok (.ireturn, 1) := by decide +kernel
theorem dX9_count_131 : decode cX9_count 131 = .ok (.aload_n 0, 1) := by decide +kernel
theorem dX9_count_132 : decode cX9_count 132 = .ok (.getfield 63, 3) := by decide +kernel
theorem dX9_count_135 : decode cX9_count 135 = .ok (.getfield 236, 3) := by decide +kernel
theorem dX9_count_138 : decode cX9_count 138 = .ok (.ireturn, 1) := by decide +kernel
theorem dX9_count_139 : decode cX9_count 139 = .ok (.iconst (-1), 1) := by decide +kernel
theorem dX9_count_140 : decode cX9_count 140 = .ok (.ireturn, 1) := by decide +kernel
theorem dX9_startAnew_0 : decode cX9_startAnew 0 = .ok (.aload_n 0, 1) := by decide +kernel
theorem dX9_startAnew_1 : decode cX9_startAnew 1 = .ok (.getfield 21, 3) := by decide +kernel
theorem dX9_startAnew_4 : decode cX9_startAnew 4 = .ok (.iload_n 1, 1) := by decide +kernel
theorem dX9_startAnew_5 : decode cX9_startAnew 5 = .ok (.iload_n 2, 1) := by decide +kernel
theorem dX9_startAnew_6 : decode cX9_startAnew 6 = .ok (.invokevirtual 238, 3) := by decide +kernel
theorem dX9_startAnew_9 : decode cX9_startAnew 9 = .ok (.aload_n 0, 1) := by decide +kernel
theorem dX9_startAnew_10 : decode cX9_startAnew 10 = .ok (.getfield 28, 3) := by decide +kernel
theorem dX9_startAnew_13 : decode cX9_startAnew 13 = .ok (.invokevirtual 241, 3) := by decide +kernel
theorem dX9_startAnew_16 : decode cX9_startAnew 16 = .ok (.aload_n 0, 1) := by decide +kernel
theorem dX9_startAnew_17 : decode cX9_startAnew 17 = .ok (.getfield 35, 3) := by decide +kernel
theorem dX9_startAnew_20 : decode cX9_startAnew 20 = .ok (.getfield 107, 3) := by decide +kernel
theorem dX9_startAnew_23 : decode cX9_startAnew 23 = .ok (.iconst 0, 1) := by decide +kernel
theorem dX9_startAnew_24 : decode cX9_startAnew 24 = .ok (.invokevirtual 243, 3) := by decide +kernel
theorem dX9_startAnew_27 : decode cX9_startAnew 27 = .ok (.aload_n 0, 1) := by decide +kernel
theorem dX9_startAnew_28 : decode cX9_startAnew 28 = .ok (.getfield 42, 3) := by decide +kernel
theorem dX9_startAnew_31 : decode cX9_startAnew 31 = .ok (.invokevirtual 246, 3) := by decide +kernel
theorem dX9_startAnew_34 : decode cX9_startAnew 34 = .ok (.aload_n 0, 1) := by decide +kernel
theorem dX9_startAnew_35 : decode cX9_startAnew 35 = .ok (.getfield 56, 3) := by decide +kernel
theorem dX9_startAnew_38 : decode cX9_startAnew 38 = .ok (.invokevirtual 247, 3) := by decide +kernel
theorem dX9_startAnew_41 : decode cX9_startAnew 41 = .ok (.aload_n 0, 1) := by decide +kernel
theorem dX9_startAnew_42 : decode cX9_startAnew 42 = .ok (.getfield 63, 3) := by decide +kernel
theorem dX9_startAnew_45 : decode cX9_startAnew 45 = .ok (.iconst 0, 1) := by decide +kernel
theorem dX9_startAnew_46 : decode cX9_startAnew 46 = .ok (.putfield 236, 3) := by decide +kernel
theorem dX9_startAnew_49 : decode cX9_startAnew 49 = .ok (.aload_n 0, 1) := by decide +kernel
theorem dX9_startAnew_50 : decode cX9_startAnew 50 = .ok (.getfield 70, 3) := by decide +kernel
theorem dX9_startAnew_53 : decode cX9_startAnew 53 = .ok (.invokevirtual 248, 3) := by decide +kernel
theorem dX9_startAnew_56 : decode cX9_startAnew 56 = .ok (.aload_n 0, 1) := by decide +kernel
theorem dX9_startAnew_57 : decode cX9_startAnew 57 = .ok (.invokevirtual 249, 3) := by decide +kernel
theorem dX9_startAnew_60 : decode cX9_startAnew 60 = .ok (.aload_n 0, 1) := by decide +kernel
theorem dX9_startAnew_61 : decode cX9_startAnew 61 = .ok (.iconst 0, 1) := by decide +kernel
theorem dX9_startAnew_62 : decode cX9_startAnew 62 = .ok (.putfield 162, 3) := by decide +kernel
theorem dX9_startAnew_65 : decode cX9_startAnew 65 = .ok (.aload_n 0, 1) := by decide +kernel
theorem dX9_startAnew_66 : decode cX9_startAnew 66 = .ok (.iconst 0, 1) := by decide +kernel
theorem dX9_startAnew_67 : decode cX9_startAnew 67 = .ok (.putfield 215, 3) := by decide +kernel
theorem dX9_startAnew_70 : decode cX9_startAnew 70 = .ok (.aload_n 0, 1) := by decide +kernel
theorem dX9_startAnew_71 : decode cX9_startAnew 71 = .ok (.iconst 0, 1) := by decide +kernel
theorem dX9_startAnew_72 : decode cX9_startAnew 72 = .ok (.putfield 218, 3) := by decide +kernel
theorem dX9_startAnew_75 : decode cX9_startAnew 75 = .ok (.return_, 1) := by decide +kernel
theorem dX9_startRules_0 : decode cX9_startRules 0 = .ok (.aload_n 0, 1) := by decide +kernel
theorem dX9_startRules_1 : decode cX9_startRules 1 = .ok (.getfield 14, 3) := by decide +kernel
theorem dX9_startRules_4 : decode cX9_startRules 4 = .ok (.iconst 0, 1) := by decide +kernel
theorem dX9_startRules_5 : decode cX9_startRules 5 = .ok (.iconst 5, 1) := by decide +kernel
theorem dX9_startRules_6 : decode cX9_startRules 6 = .ok (.invokevirtual 93, 3) := by decide +kernel
theorem dX9_startRules_9 : decode cX9_startRules 9 = .ok (.pop, 1) := by decide +kernel
theorem dX9_startRules_10 : decode cX9_startRules 10 = .ok (.aload_n 0, 1) := by decide +kernel
theorem dX9_startRules_11 : decode cX9_startRules 11 = .ok (.getfield 14, 3) := by decide +kernel
theorem dX9_startRules_14 : decode cX9_startRules 14 = .ok (.iconst 1, 1) := by decide +kernel
theorem dX9_startRules_15 : decode cX9_startRules 15 = .ok (.bipush 100, 2) := by decide +kernel
theorem dX9_startRules_17 : decode cX9_startRules 17 = .ok (.invokevirtual 93, 3) := by decide +kernel
theorem dX9_startRules_20 : decode cX9_startRules 20 = .ok (.pop, 1) := by decide +kernel
theorem dX9_startRules_21 : decode cX9_startRules 21 = .ok (.aload_n 0, 1) := by decide +kernel
theorem dX9_startRules_22 : decode cX9_startRules 22 = .ok (.getfield 14, 3) := by decide +kernel
theorem dX9_startRules_25 : decode cX9_startRules 25 = .ok (.iconst 2, 1) := by decide +kernel
theorem dX9_startRules_26 : decode cX9_startRules 26 = .ok (.bipush 50, 2) := by decide +kernel
theorem dX9_startRules_28 : decode cX9_startRules 28 = .ok (.invokevirtual 93, 3) := by decide +kernel
theorem dX9_startRules_31 : decode cX9_startRules 31 = .ok (.pop, 1) := by decide +kernel
theorem dX9_startRules_32 : decode cX9_startRules 32 = .ok (.aload_n 0, 1) := by decide +kernel
theorem dX9_startRules_33 : decode cX9_startRules 33 = .ok (.getfield 14, 3) := by decide +kernel
theorem dX9_startRules_36 : decode cX9_startRules 36 = .ok (.iconst 3, 1) := by decide +kernel
theorem dX9_startRules_37 : decode cX9_startRules 37 = .ok (.bipush 80, 2) := by decide +kernel
theorem dX9_startRules_39 : decode cX9_startRules 39 = .ok (.invokevirtual 93, 3) := by decide +kernel
theorem dX9_startRules_42 : decode cX9_startRules 42 = .ok (.pop, 1) := by decide +kernel
theorem dX9_startRules_43 : decode cX9_startRules 43 = .ok (.aload_n 0, 1) := by decide +kernel
theorem dX9_startRules_44 : decode cX9_startRules 44 = .ok (.getfield 14, 3) := by decide +kernel
theorem dX9_startRules_47 : decode cX9_startRules 47 = .ok (.iconst 4, 1) := by decide +kernel
theorem dX9_startRules_48 : decode cX9_startRules 48 = .ok (.iconst 0, 1) := by decide +kernel
theorem dX9_startRules_49 : decode cX9_startRules 49 = .ok (.invokevirtual 93, 3) := by decide +kernel
theorem dX9_startRules_52 : decode cX9_startRules 52 = .ok (.pop, 1) := by decide +kernel
theorem dX9_startRules_53 : decode cX9_startRules 53 = .ok (.return_, 1) := by decide +kernel
theorem dX9_leastOfRule_0 : decode cX9_leastOfRule 0 = .ok (.iload_n 0, 1) := by decide +kernel
theorem dX9_leastOfRule_1 : decode cX9_leastOfRule 1 = .ok (.iconst 4, 1) := by decide +kernel
theorem dX9_leastOfRule_2 : decode cX9_leastOfRule 2 = .ok (.if_icmp .ne 7, 3) := by decide +kernel
theorem dX9_leastOfRule_5 : decode cX9_leastOfRule 5 = .ok (.iconst (-1), 1) := by decide +kernel
theorem dX9_leastOfRule_6 : decode cX9_leastOfRule 6 = .ok (.goto 4, 3) := by decide +kernel
theorem dX9_leastOfRule_9 : decode cX9_leastOfRule 9 = .ok (.iconst 0, 1) := by decide +kernel
theorem dX9_leastOfRule_10 : decode cX9_leastOfRule 10 = .ok (.ireturn, 1) := by decide +kernel
theorem dX9_mostOfRule_0 : decode cX9_mostOfRule 0 = .ok (.iload_n 0, 1) := by decide +kernel
theorem dX9_mostOfRule_1 : decode cX9_mostOfRule 1 = .ok (.ifCond .ne 6, 3) := by decide +kernel
theorem dX9_mostOfRule_4 : decode cX9_mostOfRule 4 = .ok (.bipush 50, 2) := by decide +kernel
theorem dX9_mostOfRule_6 : decode cX9_mostOfRule 6 = .ok (.ireturn, 1) := by decide +kernel
theorem dX9_mostOfRule_7 : decode cX9_mostOfRule 7 = .ok (.iload_n 0, 1) := by decide +kernel
theorem dX9_mostOfRule_8 : decode cX9_mostOfRule 8 = .ok (.iconst 4, 1) := by decide +kernel
theorem dX9_mostOfRule_9 : decode cX9_mostOfRule 9 = .ok (.if_icmp .ne 7, 3) := by decide +kernel
theorem dX9_mostOfRule_12 : decode cX9_mostOfRule 12 = .ok (.iconst 1, 1) := by decide +kernel
theorem dX9_mostOfRule_13 : decode cX9_mostOfRule 13 = .ok (.goto 6, 3) := by decide +kernel
theorem dX9_mostOfRule_16 : decode cX9_mostOfRule 16 = .ok (.sipush 400, 3) := by decide +kernel
theorem dX9_mostOfRule_19 : decode cX9_mostOfRule 19 = .ok (.ireturn, 1) := by decide +kernel
theorem dX9_within_0 : decode cX9_within 0 = .ok (.iload_n 0, 1) := by decide +kernel
theorem dX9_within_1 : decode cX9_within 1 = .ok (.iload_n 1, 1) := by decide +kernel
theorem dX9_within_2 : decode cX9_within 2 = .ok (.if_icmp .lt 12, 3) := by decide +kernel
theorem dX9_within_5 : decode cX9_within 5 = .ok (.iload_n 0, 1) := by decide +kernel
theorem dX9_within_6 : decode cX9_within 6 = .ok (.iload_n 2, 1) := by decide +kernel
theorem dX9_within_7 : decode cX9_within 7 = .ok (.if_icmp .gt 7, 3) := by decide +kernel
theorem dX9_within_10 : decode cX9_within 10 = .ok (.iconst 1, 1) := by decide +kernel
theorem dX9_within_11 : decode cX9_within 11 = .ok (.goto 4, 3) := by decide +kernel
theorem dX9_within_14 : decode cX9_within 14 = .ok (.iconst 0, 1) := by decide +kernel
theorem dX9_within_15 : decode cX9_within 15 = .ok (.ireturn, 1) := by decide +kernel
theorem dX9_homeHour_0 : decode cX9_homeHour 0 = .ok (.aload_n 0, 1) := by decide +kernel
theorem dX9_homeHour_1 : decode cX9_homeHour 1 = .ok (.getfield 14, 3) := by decide +kernel
theorem dX9_homeHour_4 : decode cX9_homeHour 4 = .ok (.iload_n 1, 1) := by decide +kernel
theorem dX9_homeHour_5 : decode cX9_homeHour 5 = .ok (.ifCond .ne 7, 3) := by decide +kernel
theorem dX9_homeHour_8 : decode cX9_homeHour 8 = .ok (.iconst 2, 1) := by decide +kernel
theorem dX9_homeHour_9 : decode cX9_homeHour 9 = .ok (.goto 4, 3) := by decide +kernel
theorem dX9_homeHour_12 : decode cX9_homeHour 12 = .ok (.iconst 3, 1) := by decide +kernel
theorem dX9_homeHour_13 : decode cX9_homeHour 13 = .ok (.invokevirtual 118, 3) := by decide +kernel
theorem dX9_homeHour_16 : decode cX9_homeHour 16 = .ok (.istore_n 3, 1) := by decide +kernel
theorem dX9_homeHour_17 : decode cX9_homeHour 17 = .ok (.aload_n 0, 1) := by decide +kernel
theorem dX9_homeHour_18 : decode cX9_homeHour 18 = .ok (.getfield 35, 3) := by decide +kernel
theorem dX9_homeHour_21 : decode cX9_homeHour 21 = .ok (.aload_n 0, 1) := by decide +kernel
theorem dX9_homeHour_22 : decode cX9_homeHour 22 = .ok (.getfield 162, 3) := by decide +kernel
theorem dX9_homeHour_25 : decode cX9_homeHour 25 = .ok (.iconst 1, 1) := by decide +kernel
theorem dX9_homeHour_26 : decode cX9_homeHour 26 = .ok (.iadd, 1) := by decide +kernel
theorem dX9_homeHour_27 : decode cX9_homeHour 27 = .ok (.iload_n 3, 1) := by decide +kernel
theorem dX9_homeHour_28 : decode cX9_homeHour 28 = .ok (.aload_n 0, 1) := by decide +kernel
theorem dX9_homeHour_29 : decode cX9_homeHour 29 = .ok (.getfield 14, 3) := by decide +kernel
theorem dX9_homeHour_32 : decode cX9_homeHour 32 = .ok (.iconst 1, 1) := by decide +kernel
theorem dX9_homeHour_33 : decode cX9_homeHour 33 = .ok (.invokevirtual 118, 3) := by decide +kernel
theorem dX9_homeHour_36 : decode cX9_homeHour 36 = .ok (.isub, 1) := by decide +kernel
theorem dX9_homeHour_37 : decode cX9_homeHour 37 = .ok (.invokevirtual 252, 3) := by decide +kernel
theorem dX9_homeHour_40 : decode cX9_homeHour 40 = .ok (.istore 4, 2) := by decide +kernel
theorem dX9_homeHour_42 : decode cX9_homeHour 42 = .ok (.iload 4, 2) := by decide +kernel
theorem dX9_homeHour_44 : decode cX9_homeHour 44 = .ok (.iconst (-1), 1) := by decide +kernel
theorem dX9_homeHour_45 : decode cX9_homeHour 45 = .ok (.if_icmp .ne 5, 3) := by decide +kernel
theorem dX9_homeHour_48 : decode cX9_homeHour 48 = .ok (.iconst (-1), 1) := by decide +kernel
theorem dX9_homeHour_49 : decode cX9_homeHour 49 = .ok (.ireturn, 1) := by decide +kernel
theorem dX9_homeHour_50 : decode cX9_homeHour 50 = .ok (.aload_n 0, 1) := by decide +kernel
theorem dX9_homeHour_51 : decode cX9_homeHour 51 = .ok (.getfield 35, 3) := by decide +kernel
theorem dX9_homeHour_54 : decode cX9_homeHour 54 = .ok (.iload 4, 2) := by decide +kernel
theorem dX9_homeHour_56 : decode cX9_homeHour 56 = .ok (.iload_n 2, 1) := by decide +kernel
theorem dX9_homeHour_57 : decode cX9_homeHour 57 = .ok (.iadd, 1) := by decide +kernel
theorem dX9_homeHour_58 : decode cX9_homeHour 58 = .ok (.aload_n 0, 1) := by decide +kernel
theorem dX9_homeHour_59 : decode cX9_homeHour 59 = .ok (.getfield 14, 3) := by decide +kernel
theorem dX9_homeHour_62 : decode cX9_homeHour 62 = .ok (.iconst 2, 1) := by decide +kernel
theorem dX9_homeHour_63 : decode cX9_homeHour 63 = .ok (.invokevirtual 118, 3) := by decide +kernel
theorem dX9_homeHour_66 : decode cX9_homeHour 66 = .ok (.aload_n 0, 1) := by decide +kernel
theorem dX9_homeHour_67 : decode cX9_homeHour 67 = .ok (.getfield 14, 3) := by decide +kernel
theorem dX9_homeHour_70 : decode cX9_homeHour 70 = .ok (.iconst 1, 1) := by decide +kernel
theorem dX9_homeHour_71 : decode cX9_homeHour 71 = .ok (.invokevirtual 118, 3) := by decide +kernel
theorem dX9_homeHour_74 : decode cX9_homeHour 74 = .ok (.isub, 1) := by decide +kernel
theorem dX9_homeHour_75 : decode cX9_homeHour 75 = .ok (.invokevirtual 252, 3) := by decide +kernel
theorem dX9_homeHour_78 : decode cX9_homeHour 78 = .ok (.istore 5, 2) := by decide +kernel
theorem dX9_homeHour_80 : decode cX9_homeHour 80 = .ok (.iload 5, 2) := by decide +kernel
theorem dX9_homeHour_82 : decode cX9_homeHour 82 = .ok (.iconst (-1), 1) := by decide +kernel
theorem dX9_homeHour_83 : decode cX9_homeHour 83 = .ok (.if_icmp .ne 7, 3) := by decide +kernel
theorem dX9_homeHour_86 : decode cX9_homeHour 86 = .ok (.iconst (-1), 1) := by decide +kernel
theorem dX9_homeHour_87 : decode cX9_homeHour 87 = .ok (.goto 7, 3) := by decide +kernel
theorem dX9_homeHour_90 : decode cX9_homeHour 90 = .ok (.iload 5, 2) := by decide +kernel
theorem dX9_homeHour_92 : decode cX9_homeHour 92 = .ok (.iload_n 2, 1) := by decide +kernel
theorem dX9_homeHour_93 : decode cX9_homeHour 93 = .ok (.iadd, 1) := by decide +kernel
theorem dX9_homeHour_94 : decode cX9_homeHour 94 = .ok (.ireturn, 1) := by decide +kernel
theorem dX9_carryOut_0 : decode cX9_carryOut 0 = .ok (.aload_n 0, 1) := by decide +kernel
theorem dX9_carryOut_1 : decode cX9_carryOut 1 = .ok (.getfield 49, 3) := by decide +kernel
theorem dX9_carryOut_4 : decode cX9_carryOut 4 = .ok (.aload_n 0, 1) := by decide +kernel
theorem dX9_carryOut_5 : decode cX9_carryOut 5 = .ok (.getfield 21, 3) := by decide +kernel
theorem dX9_carryOut_8 : decode cX9_carryOut 8 = .ok (.invokevirtual 255, 3) := by decide +kernel
theorem dX9_carryOut_11 : decode cX9_carryOut 11 = .ok (.aload_n 0, 1) := by decide +kernel
theorem dX9_carryOut_12 : decode cX9_carryOut 12 = .ok (.getfield 28, 3) := by decide +kernel
theorem dX9_carryOut_15 : decode cX9_carryOut 15 = .ok (.aload_n 0, 1) := by decide +kernel
theorem dX9_carryOut_16 : decode cX9_carryOut 16 = .ok (.getfield 49, 3) := by decide +kernel
theorem dX9_carryOut_19 : decode cX9_carryOut 19 = .ok (.getfield 259, 3) := by decide +kernel
theorem dX9_carryOut_22 : decode cX9_carryOut 22 = .ok (.iconst 0, 1) := by decide +kernel
theorem dX9_carryOut_23 : decode cX9_carryOut 23 = .ok (.iload_n 1, 1) := by decide +kernel
theorem dX9_carryOut_24 : decode cX9_carryOut 24 = .ok (.iconst 4, 1) := by decide +kernel
theorem dX9_carryOut_25 : decode cX9_carryOut 25 = .ok (.imul, 1) := by decide +kernel
theorem dX9_carryOut_26 : decode cX9_carryOut 26 = .ok (.aload_n 0, 1) := by decide +kernel
theorem dX9_carryOut_27 : decode cX9_carryOut 27 = .ok (.getfield 49, 3) := by decide +kernel
theorem dX9_carryOut_30 : decode cX9_carryOut 30 = .ok (.getfield 148, 3) := by decide +kernel
theorem dX9_carryOut_33 : decode cX9_carryOut 33 = .ok (.isub, 1) := by decide +kernel
theorem dX9_carryOut_34 : decode cX9_carryOut 34 = .ok (.invokestatic 262, 3) := by decide +kernel
theorem dX9_carryOut_37 : decode cX9_carryOut 37 = .ok (.invokevirtual 267, 3) := by decide +kernel
theorem dX9_carryOut_40 : decode cX9_carryOut 40 = .ok (.aload_n 0, 1) := by decide +kernel
theorem dX9_carryOut_41 : decode cX9_carryOut 41 = .ok (.getfield 56, 3) := by decide +kernel
theorem dX9_carryOut_44 : decode cX9_carryOut 44 = .ok (.getfield 115, 3) := by decide +kernel
theorem dX9_carryOut_47 : decode cX9_carryOut 47 = .ok (.iload_n 2, 1) := by decide +kernel
theorem dX9_carryOut_48 : decode cX9_carryOut 48 = .ok (.aload_n 0, 1) := by decide +kernel
theorem dX9_carryOut_49 : decode cX9_carryOut 49 = .ok (.getfield 49, 3) := by decide +kernel
theorem dX9_carryOut_52 : decode cX9_carryOut 52 = .ok (.getfield 148, 3) := by decide +kernel
theorem dX9_carryOut_55 : decode cX9_carryOut 55 = .ok (.invokevirtual 270, 3) := by decide +kernel
theorem dX9_carryOut_58 : decode cX9_carryOut 58 = .ok (.aload_n 0, 1) := by decide +kernel
theorem dX9_carryOut_59 : decode cX9_carryOut 59 = .ok (.dup, 1) := by decide +kernel
theorem dX9_carryOut_60 : decode cX9_carryOut 60 = .ok (.getfield 218, 3) := by decide +kernel
theorem dX9_carryOut_63 : decode cX9_carryOut 63 = .ok (.aload_n 0, 1) := by decide +kernel
theorem dX9_carryOut_64 : decode cX9_carryOut 64 = .ok (.getfield 49, 3) := by decide +kernel
theorem dX9_carryOut_67 : decode cX9_carryOut 67 = .ok (.getfield 148, 3) := by decide +kernel
theorem dX9_carryOut_70 : decode cX9_carryOut 70 = .ok (.iadd, 1) := by decide +kernel
theorem dX9_carryOut_71 : decode cX9_carryOut 71 = .ok (.putfield 218, 3) := by decide +kernel
theorem dX9_carryOut_74 : decode cX9_carryOut 74 = .ok (.aload_n 0, 1) := by decide +kernel
theorem dX9_carryOut_75 : decode cX9_carryOut 75 = .ok (.dup, 1) := by decide +kernel
theorem dX9_carryOut_76 : decode cX9_carryOut 76 = .ok (.getfield 215, 3) := by decide +kernel
theorem dX9_carryOut_79 : decode cX9_carryOut 79 = .ok (.iconst 1, 1) := by decide +kernel
theorem dX9_carryOut_80 : decode cX9_carryOut 80 = .ok (.iadd, 1) := by decide +kernel
theorem dX9_carryOut_81 : decode cX9_carryOut 81 = .ok (.putfield 215, 3) := by decide +kernel
theorem dX9_carryOut_84 : decode cX9_carryOut 84 = .ok (.return_, 1) := by decide +kernel
theorem dX9_passHours_0 : decode cX9_passHours 0 = .ok (.iconst 0, 1) := by decide +kernel
theorem dX9_passHours_1 : decode cX9_passHours 1 = .ok (.istore_n 2, 1) := by decide +kernel
theorem dX9_passHours_2 : decode cX9_passHours 2 = .ok (.iload_n 2, 1) := by decide +kernel
theorem dX9_passHours_3 : decode cX9_passHours 3 = .ok (.iload_n 1, 1) := by decide +kernel
theorem dX9_passHours_4 : decode cX9_passHours 4 = .ok (.if_icmp .ge 13, 3) := by decide +kernel
theorem dX9_passHours_7 : decode cX9_passHours 7 = .ok (.aload_n 0, 1) := by decide +kernel
theorem dX9_passHours_8 : decode cX9_passHours 8 = .ok (.invokevirtual 273, 3) := by decide +kernel
theorem dX9_passHours_11 : decode cX9_passHours 11 = .ok (.iinc 2 1, 3) := by decide +kernel
theorem dX9_passHours_14 : decode cX9_passHours 14 = .ok (.goto (-12), 3) := by decide +kernel
theorem dX9_passHours_17 : decode cX9_passHours 17 = .ok (.return_, 1) := by decide +kernel
theorem dX9_endHour_0 : decode cX9_endHour 0 = .ok (.aload_n 0, 1) := by decide +kernel
theorem dX9_endHour_1 : decode cX9_endHour 1 = .ok (.dup, 1) := by decide +kernel
theorem dX9_endHour_2 : decode cX9_endHour 2 = .ok (.getfield 162, 3) := by decide +kernel
theorem dX9_endHour_5 : decode cX9_endHour 5 = .ok (.iconst 1, 1) := by decide +kernel
theorem dX9_endHour_6 : decode cX9_endHour 6 = .ok (.iadd, 1) := by decide +kernel
theorem dX9_endHour_7 : decode cX9_endHour 7 = .ok (.putfield 162, 3) := by decide +kernel
theorem dX9_endHour_10 : decode cX9_endHour 10 = .ok (.aload_n 0, 1) := by decide +kernel
theorem dX9_endHour_11 : decode cX9_endHour 11 = .ok (.getfield 28, 3) := by decide +kernel
theorem dX9_endHour_14 : decode cX9_endHour 14 = .ok (.aload_n 0, 1) := by decide +kernel
theorem dX9_endHour_15 : decode cX9_endHour 15 = .ok (.getfield 21, 3) := by decide +kernel
theorem dX9_endHour_18 : decode cX9_endHour 18 = .ok (.aload_n 0, 1) := by decide +kernel
theorem dX9_endHour_19 : decode cX9_endHour 19 = .ok (.getfield 14, 3) := by decide +kernel
theorem dX9_endHour_22 : decode cX9_endHour 22 = .ok (.iconst 4, 1) := by decide +kernel
theorem dX9_endHour_23 : decode cX9_endHour 23 = .ok (.invokevirtual 118, 3) := by decide +kernel
theorem dX9_endHour_26 : decode cX9_endHour 26 = .ok (.invokevirtual 276, 3) := by decide +kernel
theorem dX9_endHour_29 : decode cX9_endHour 29 = .ok (.aload_n 0, 1) := by decide +kernel
theorem dX9_endHour_30 : decode cX9_endHour 30 = .ok (.getfield 63, 3) := by decide +kernel
theorem dX9_endHour_33 : decode cX9_endHour 33 = .ok (.aload_n 0, 1) := by decide +kernel
theorem dX9_endHour_34 : decode cX9_endHour 34 = .ok (.getfield 28, 3) := by decide +kernel
theorem dX9_endHour_37 : decode cX9_endHour 37 = .ok (.invokevirtual 280, 3) := by decide +kernel
theorem dX9_endHour_40 : decode cX9_endHour 40 = .ok (.aload_n 0, 1) := by decide +kernel
theorem dX9_endHour_41 : decode cX9_endHour 41 = .ok (.getfield 162, 3) := by decide +kernel
theorem dX9_endHour_44 : decode cX9_endHour 44 = .ok (.bipush 24, 2) := by decide +kernel
theorem dX9_endHour_46 : decode cX9_endHour 46 = .ok (.irem, 1) := by decide +kernel
theorem dX9_endHour_47 : decode cX9_endHour 47 = .ok (.ifCond .ne 10, 3) := by decide +kernel
theorem dX9_endHour_50 : decode cX9_endHour 50 = .ok (.aload_n 0, 1) := by decide +kernel
theorem dX9_endHour_51 : decode cX9_endHour 51 = .ok (.getfield 21, 3) := by decide +kernel
theorem dX9_endHour_54 : decode cX9_endHour 54 = .ok (.invokevirtual 284, 3) := by decide +kernel
theorem dX9_endHour_57 : decode cX9_endHour 57 = .ok (.return_, 1) := by decide +kernel
theorem dX10_init_0 : decode cX10_init 0 = .ok (.aload_n 0, 1) := by decide +kernel
theorem dX10_init_1 : decode cX10_init 1 = .ok (.invokespecial 1, 3) := by decide +kernel
theorem dX10_init_4 : decode cX10_init 4 = .ok (.aload_n 0, 1) := by decide +kernel
theorem dX10_init_5 : decode cX10_init 5 = .ok (.iconst 1, 1) := by decide +kernel
theorem dX10_init_6 : decode cX10_init 6 = .ok (.putfield 7, 3) := by decide +kernel
theorem dX10_init_9 : decode cX10_init 9 = .ok (.aload_n 0, 1) := by decide +kernel
theorem dX10_init_10 : decode cX10_init 10 = .ok (.iconst 1, 1) := by decide +kernel
theorem dX10_init_11 : decode cX10_init 11 = .ok (.putfield 13, 3) := by decide +kernel
theorem dX10_init_14 : decode cX10_init 14 = .ok (.aload_n 0, 1) := by decide +kernel
theorem dX10_init_15 : decode cX10_init 15 = .ok (.bipush 120, 2) := by decide +kernel
theorem dX10_init_17 : decode cX10_init 17 = .ok (.newarray .int, 2) := by decide +kernel
theorem dX10_init_19 : decode cX10_init 19 = .ok (.putfield 16, 3) := by decide +kernel
theorem dX10_init_22 : decode cX10_init 22 = .ok (.aload_n 0, 1) := by decide +kernel
theorem dX10_init_23 : decode cX10_init 23 = .ok (.bipush 120, 2) := by decide +kernel
theorem dX10_init_25 : decode cX10_init 25 = .ok (.newarray .int, 2) := by decide +kernel
theorem dX10_init_27 : decode cX10_init 27 = .ok (.putfield 20, 3) := by decide +kernel
theorem dX10_init_30 : decode cX10_init 30 = .ok (.aload_n 0, 1) := by decide +kernel
theorem dX10_init_31 : decode cX10_init 31 = .ok (.bipush 120, 2) := by decide +kernel
theorem dX10_init_33 : decode cX10_init 33 = .ok (.newarray .int, 2) := by decide +kernel
theorem dX10_init_35 : decode cX10_init 35 = .ok (.putfield 23, 3) := by decide +kernel
theorem dX10_init_38 : decode cX10_init 38 = .ok (.aload_n 0, 1) := by decide +kernel
theorem dX10_init_39 : decode cX10_init 39 = .ok (.bipush 120, 2) := by decide +kernel
theorem dX10_init_41 : decode cX10_init 41 = .ok (.newarray .int, 2) := by decide +kernel
theorem dX10_init_43 : decode cX10_init 43 = .ok (.putfield 26, 3) := by decide +kernel
theorem dX10_init_46 : decode cX10_init 46 = .ok (.aload_n 0, 1) := by decide +kernel
theorem dX10_init_47 : decode cX10_init 47 = .ok (.bipush 120, 2) := by decide +kernel
theorem dX10_init_49 : decode cX10_init 49 = .ok (.newarray .int, 2) := by decide +kernel
theorem dX10_init_51 : decode cX10_init 51 = .ok (.putfield 29, 3) := by decide +kernel
theorem dX10_init_54 : decode cX10_init 54 = .ok (.aload_n 0, 1) := by decide +kernel
theorem dX10_init_55 : decode cX10_init 55 = .ok (.iconst 5, 1) := by decide +kernel
theorem dX10_init_56 : decode cX10_init 56 = .ok (.newarray .int, 2) := by decide +kernel
theorem dX10_init_58 : decode cX10_init 58 = .ok (.putfield 32, 3) := by decide +kernel
theorem dX10_init_61 : decode cX10_init 61 = .ok (.aload_n 0, 1) := by decide +kernel
theorem dX10_init_62 : decode cX10_init 62 = .ok (.bipush 12, 2) := by decide +kernel
theorem dX10_init_64 : decode cX10_init 64 = .ok (.newarray .int, 2) := by decide +kernel
theorem dX10_init_66 : decode cX10_init 66 = .ok (.putfield 35, 3) := by decide +kernel
theorem dX10_init_69 : decode cX10_init 69 = .ok (.aload_n 0, 1) := by decide +kernel
theorem dX10_init_70 : decode cX10_init 70 = .ok (.iconst 3, 1) := by decide +kernel
theorem dX10_init_71 : decode cX10_init 71 = .ok (.newarray .int, 2) := by decide +kernel
theorem dX10_init_73 : decode cX10_init 73 = .ok (.putfield 38, 3) := by decide +kernel
theorem dX10_init_76 : decode cX10_init 76 = .ok (.aload_n 0, 1) := by decide +kernel
theorem dX10_init_77 : decode cX10_init 77 = .ok (.iconst 3, 1) := by decide +kernel
theorem dX10_init_78 : decode cX10_init 78 = .ok (.newarray .int, 2) := by decide +kernel
theorem dX10_init_80 : decode cX10_init 80 = .ok (.putfield 41, 3) := by decide +kernel
theorem dX10_init_83 : decode cX10_init 83 = .ok (.aload_n 0, 1) := by decide +kernel
theorem dX10_init_84 : decode cX10_init 84 = .ok (.iconst 3, 1) := by decide +kernel
theorem dX10_init_85 : decode cX10_init 85 = .ok (.newarray .int, 2) := by decide +kernel
theorem dX10_init_87 : decode cX10_init 87 = .ok (.putfield 44, 3) := by decide +kernel
theorem dX10_init_90 : decode cX10_init 90 = .ok (.aload_n 0, 1) := by decide +kernel
theorem dX10_init_91 : decode cX10_init 91 = .ok (.bipush 31, 2) := by decide +kernel
theorem dX10_init_93 : decode cX10_init 93 = .ok (.newarray .int, 2) := by decide +kernel
theorem dX10_init_95 : decode cX10_init 95 = .ok (.putfield 47, 3) := by decide +kernel
theorem dX10_init_98 : decode cX10_init 98 = .ok (.aload_n 0, 1) := by decide +kernel
theorem dX10_init_99 : decode cX10_init 99 = .ok (.bipush 8, 2) := by decide +kernel
theorem dX10_init_101 : decode cX10_init 101 = .ok (.newarray .int, 2) := by decide +kernel
theorem dX10_init_103 : decode cX10_init 103 = .ok (.putfield 50, 3) := by decide +kernel
theorem dX10_init_106 : decode cX10_init 106 = .ok (.aload_n 0, 1) := by decide +kernel
theorem dX10_init_107 : decode cX10_init 107 = .ok (.bipush 8, 2) := by decide +kernel
theorem dX10_init_109 : decode cX10_init 109 = .ok (.newarray .int, 2) := by decide +kernel
theorem dX10_init_111 : decode cX10_init 111 = .ok (.putfield 53, 3) := by decide +kernel
theorem dX10_init_114 : decode cX10_init 114 = .ok (.aload_n 0, 1) := by decide +kernel
theorem dX10_init_115 : decode cX10_init 115 = .ok (.bipush 8, 2) := by decide +kernel
theorem dX10_init_117 : decode cX10_init 117 = .ok (.newarray .int, 2) := by decide +kernel
theorem dX10_init_119 : decode cX10_init 119 = .ok (.putfield 56, 3) := by decide +kernel
theorem dX10_init_122 : decode cX10_init 122 = .ok (.aload_n 0, 1) := by decide +kernel
theorem dX10_init_123 : decode cX10_init 123 = .ok (.bipush 6, 2) := by decide +kernel
theorem dX10_init_125 : decode cX10_init 125 = .ok (.newarray .boolean, 2) := by decide +kernel
theorem dX10_init_127 : decode cX10_init 127 = .ok (.putfield 59, 3) := by decide +kernel
theorem dX10_init_130 : decode cX10_init 130 = .ok (.aload_n 0, 1) := by decide +kernel
theorem dX10_init_131 : decode cX10_init 131 = .ok (.sipush 720, 3) := by decide +kernel
theorem dX10_init_134 : decode cX10_init 134 = .ok (.newarray .int, 2) := by decide +kernel
theorem dX10_init_136 : decode cX10_init 136 = .ok (.putfield 63, 3) := by decide +kernel
theorem dX10_init_139 : decode cX10_init 139 = .ok (.aload_n 0, 1) := by decide +kernel
theorem dX10_init_140 : decode cX10_init 140 = .ok (.invokevirtual 66, 3) := by decide +kernel
theorem dX10_init_143 : decode cX10_init 143 = .ok (.return_, 1) := by decide +kernel
theorem dX10_in_0 : decode cX10_in 0 = .ok (.iload_n 0, 1) := by decide +kernel
theorem dX10_in_1 : decode cX10_in 1 = .ok (.iload_n 1, 1) := by decide +kernel
theorem dX10_in_2 : decode cX10_in 2 = .ok (.if_icmp .lt 12, 3) := by decide +kernel
theorem dX10_in_5 : decode cX10_in 5 = .ok (.iload_n 0, 1) := by decide +kernel
theorem dX10_in_6 : decode cX10_in 6 = .ok (.iload_n 2, 1) := by decide +kernel
theorem dX10_in_7 : decode cX10_in 7 = .ok (.if_icmp .gt 7, 3) := by decide +kernel
theorem dX10_in_10 : decode cX10_in 10 = .ok (.iconst 1, 1) := by decide +kernel
theorem dX10_in_11 : decode cX10_in 11 = .ok (.goto 4, 3) := by decide +kernel
theorem dX10_in_14 : decode cX10_in 14 = .ok (.iconst 0, 1) := by decide +kernel
theorem dX10_in_15 : decode cX10_in 15 = .ok (.ireturn, 1) := by decide +kernel
theorem dX10_isCell_0 : decode cX10_isCell 0 = .ok (.iload_n 1, 1) := by decide +kernel
theorem dX10_isCell_1 : decode cX10_isCell 1 = .ok (.iconst 0, 1) := by decide +kernel
theorem dX10_isCell_2 : decode cX10_isCell 2 = .ok (.aload_n 0, 1) := by decide +kernel
theorem dX10_isCell_3 : decode cX10_isCell 3 = .ok (.getfield 7, 3) := by decide +kernel
theorem dX10_isCell_6 : decode cX10_isCell 6 = .ok (.aload_n 0, 1) := by decide +kernel
theorem dX10_isCell_7 : decode cX10_isCell 7 = .ok (.getfield 13, 3) := by decide +kernel
theorem dX10_isCell_10 : decode cX10_isCell 10 = .ok (.imul, 1) := by decide +kernel
theorem dX10_isCell_11 : decode cX10_isCell 11 = .ok (.iconst 1, 1) := by decide +kernel
theorem dX10_isCell_12 : decode cX10_isCell 12 = .ok (.isub, 1) := by decide +kernel
theorem dX10_isCell_13 : decode cX10_isCell 13 = .ok (.invokestatic 69, 3) := by decide +kernel
theorem dX10_isCell_16 : decode cX10_isCell 16 = .ok (.ireturn, 1) := by decide +kernel
theorem dX10_anew_0 : decode cX10_anew 0 = .ok (.iconst 0, 1) := by decide +kernel
theorem dX10_anew_1 : decode cX10_anew 1 = .ok (.istore_n 1, 1) := by decide +kernel
theorem dX10_anew_2 : decode cX10_anew 2 = .ok (.iload_n 1, 1) := by decide +kernel
theorem dX10_anew_3 : decode cX10_anew 3 = .ok (.bipush 120, 2) := by decide +kernel
theorem dX10_anew_5 : decode cX10_anew 5 = .ok (.if_icmp .ge 37, 3) := by decide +kernel
theorem dX10_anew_8 : decode cX10_anew 8 = .ok (.aload_n 0, 1) := by decide +kernel
theorem dX10_anew_9 : decode cX10_anew 9 = .ok (.getfield 16, 3) := by decide +kernel
theorem dX10_anew_12 : decode cX10_anew 12 = .ok (.iload_n 1, 1) := by decide +kernel
theorem dX10_anew_13 : decode cX10_anew 13 = .ok (.iconst 0, 1) := by decide +kernel
theorem dX10_anew_14 : decode cX10_anew 14 = .ok (.iastore, 1) := by decide +kernel
theorem dX10_anew_15 : decode cX10_anew 15 = .ok (.aload_n 0, 1) := by decide +kernel
theorem dX10_anew_16 : decode cX10_anew 16 = .ok (.getfield 20, 3) := by decide +kernel
theorem dX10_anew_19 : decode cX10_anew 19 = .ok (.iload_n 1, 1) := by decide +kernel
theorem dX10_anew_20 : decode cX10_anew 20 = .ok (.iconst 0, 1) := by decide +kernel
theorem dX10_anew_21 : decode cX10_anew 21 = .ok (.iastore, 1) := by decide +kernel
theorem dX10_anew_22 : decode cX10_anew 22 = .ok (.aload_n 0, 1) := by decide +kernel
theorem dX10_anew_23 : decode cX10_anew 23 = .ok (.getfield 23, 3) := by decide +kernel
theorem dX10_anew_26 : decode cX10_anew 26 = .ok (.iload_n 1, 1) := by decide +kernel
theorem dX10_anew_27 : decode cX10_anew 27 = .ok (.iconst 0, 1) := by decide +kernel
theorem dX10_anew_28 : decode cX10_anew 28 = .ok (.iastore, 1) := by decide +kernel
theorem dX10_anew_29 : decode cX10_anew 29 = .ok (.aload_n 0, 1) := by decide +kernel
theorem dX10_anew_30 : decode cX10_anew 30 = .ok (.getfield 26, 3) := by decide +kernel
theorem dX10_anew_33 : decode cX10_anew 33 = .ok (.iload_n 1, 1) := by decide +kernel
theorem dX10_anew_34 : decode cX10_anew 34 = .ok (.iconst 0, 1) := by decide +kernel
theorem dX10_anew_35 : decode cX10_anew 35 = .ok (.iastore, 1) := by decide +kernel
theorem dX10_anew_36 : decode cX10_anew 36 = .ok (.iinc 1 1, 3) := by decide +kernel
theorem dX10_anew_39 : decode cX10_anew 39 = .ok (.goto (-37), 3) := by decide +kernel
theorem dX10_anew_42 : decode cX10_anew 42 = .ok (.aload_n 0, 1) := by decide +kernel
theorem dX10_anew_43 : decode cX10_anew 43 = .ok (.getfield 32, 3) := by decide +kernel
theorem dX10_anew_46 : decode cX10_anew 46 = .ok (.iconst 0, 1) := by decide +kernel
theorem dX10_anew_47 : decode cX10_anew 47 = .ok (.iconst 5, 1) := by decide +kernel
theorem dX10_anew_48 : decode cX10_anew 48 = .ok (.iastore, 1) := by decide +kernel
theorem dX10_anew_49 : decode cX10_anew 49 = .ok (.aload_n 0, 1) := by decide +kernel
theorem dX10_anew_50 : decode cX10_anew 50 = .ok (.getfield 32, 3) := by decide +kernel
theorem dX10_anew_53 : decode cX10_anew 53 = .ok (.iconst 1, 1) := by decide +kernel
theorem dX10_anew_54 : decode cX10_anew 54 = .ok (.bipush 100, 2) := by decide +kernel
theorem dX10_anew_56 : decode cX10_anew 56 = .ok (.iastore, 1) := by decide +kernel
theorem dX10_anew_57 : decode cX10_anew 57 = .ok (.aload_n 0, 1) := by decide +kernel
theorem dX10_anew_58 : decode cX10_anew 58 = .ok (.getfield 32, 3) := by decide +kernel
theorem dX10_anew_61 : decode cX10_anew 61 = .ok (.iconst 2, 1) := by decide +kernel
theorem dX10_anew_62 : decode cX10_anew 62 = .ok (.bipush 50, 2) := by decide +kernel
theorem dX10_anew_64 : decode cX10_anew 64 = .ok (.iastore, 1) := by decide +kernel
theorem dX10_anew_65 : decode cX10_anew 65 = .ok (.aload_n 0, 1) := by decide +kernel
theorem dX10_anew_66 : decode cX10_anew 66 = .ok (.getfield 32, 3) := by decide +kernel
theorem dX10_anew_69 : decode cX10_anew 69 = .ok (.iconst 3, 1) := by decide +kernel
theorem dX10_anew_70 : decode cX10_anew 70 = .ok (.bipush 80, 2) := by decide +kernel
theorem dX10_anew_72 : decode cX10_anew 72 = .ok (.iastore, 1) := by decide +kernel
theorem dX10_anew_73 : decode cX10_anew 73 = .ok (.aload_n 0, 1) := by decide +kernel
theorem dX10_anew_74 : decode cX10_anew 74 = .ok (.getfield 32, 3) := by decide +kernel
theorem dX10_anew_77 : decode cX10_anew 77 = .ok (.iconst 4, 1) := by decide +kernel
theorem dX10_anew_78 : decode cX10_anew 78 = .ok (.iconst 0, 1) := by decide +kernel
theorem dX10_anew_79 : decode cX10_anew 79 = .ok (.iastore, 1) := by decide +kernel
theorem dX10_anew_80 : decode cX10_anew 80 = .ok (.iconst 0, 1) := by decide +kernel
theorem dX10_anew_81 : decode cX10_anew 81 = .ok (.istore_n 1, 1) := by decide +kernel
theorem dX10_anew_82 : decode cX10_anew 82 = .ok (.iload_n 1, 1) := by decide +kernel
theorem dX10_anew_83 : decode cX10_anew 83 = .ok (.bipush 12, 2) := by decide +kernel
theorem dX10_anew_85 : decode cX10_anew 85 = .ok (.if_icmp .ge 16, 3) := by decide +kernel
theorem dX10_anew_88 : decode cX10_anew 88 = .ok (.aload_n 0, 1) := by decide +kernel
theorem dX10_anew_89 : decode cX10_anew 89 = .ok (.getfield 35, 3) := by decide +kernel
theorem dX10_anew_92 : decode cX10_anew 92 = .ok (.iload_n 1, 1) := by decide +kernel
theorem dX10_anew_93 : decode cX10_anew 93 = .ok (.iconst 0, 1) := by decide +kernel
theorem dX10_anew_94 : decode cX10_anew 94 = .ok (.iastore, 1) := by decide +kernel
theorem dX10_anew_95 : decode cX10_anew 95 = .ok (.iinc 1 1, 3) := by decide +kernel
theorem dX10_anew_98 : decode cX10_anew 98 = .ok (.goto (-16), 3) := by decide +kernel
theorem dX10_anew_101 : decode cX10_anew 101 = .ok (.iconst 0, 1) := by decide +kernel
theorem dX10_anew_102 : decode cX10_anew 102 = .ok (.istore_n 1, 1) := by decide +kernel
theorem dX10_anew_103 : decode cX10_anew 103 = .ok (.iload_n 1, 1) := by decide +kernel
theorem dX10_anew_104 : decode cX10_anew 104 = .ok (.iconst 3, 1) := by decide +kernel
theorem dX10_anew_105 : decode cX10_anew 105 = .ok (.if_icmp .ge 32, 3) := by decide +kernel
theorem dX10_anew_108 : decode cX10_anew 108 = .ok (.aload_n 0, 1) := by decide +kernel
theorem dX10_anew_109 : decode cX10_anew 109 = .ok (.getfield 38, 3) := by decide +kernel
theorem dX10_anew_112 : decode cX10_anew 112 = .ok (.iload_n 1, 1) := by decide +kernel
theorem dX10_anew_113 : decode cX10_anew 113 = .ok (.sipush 1000, 3) := by decide +kernel
theorem dX10_anew_116 : decode cX10_anew 116 = .ok (.iastore, 1) := by decide +kernel
theorem dX10_anew_117 : decode cX10_anew 117 = .ok (.aload_n 0, 1) := by decide +kernel
theorem dX10_anew_118 : decode cX10_anew 118 = .ok (.getfield 41, 3) := by decide +kernel
theorem dX10_anew_121 : decode cX10_anew 121 = .ok (.iload_n 1, 1) := by decide +kernel
theorem dX10_anew_122 : decode cX10_anew 122 = .ok (.iconst 2, 1) := by decide +kernel
theorem dX10_anew_123 : decode cX10_anew 123 = .ok (.iastore, 1) := by decide +kernel
theorem dX10_anew_124 : decode cX10_anew 124 = .ok (.aload_n 0, 1) := by decide +kernel
theorem dX10_anew_125 : decode cX10_anew 125 = .ok (.getfield 44, 3) := by decide +kernel
theorem dX10_anew_128 : decode cX10_anew 128 = .ok (.iload_n 1, 1) := by decide +kernel
theorem dX10_anew_129 : decode cX10_anew 129 = .ok (.iconst 0, 1) := by decide +kernel
theorem dX10_anew_130 : decode cX10_anew 130 = .ok (.iastore, 1) := by decide +kernel
theorem dX10_anew_131 : decode cX10_anew 131 = .ok (.iinc 1 1, 3) := by decide +kernel
theorem dX10_anew_134 : decode cX10_anew 134 = .ok (.goto (-31), 3) := by decide +kernel
theorem dX10_anew_137 : decode cX10_anew 137 = .ok (.iconst 0, 1) := by decide +kernel
theorem dX10_anew_138 : decode cX10_anew 138 = .ok (.istore_n 1, 1) := by decide +kernel
theorem dX10_anew_139 : decode cX10_anew 139 = .ok (.iload_n 1, 1) := by decide +kernel
theorem dX10_anew_140 : decode cX10_anew 140 = .ok (.bipush 31, 2) := by decide +kernel
theorem dX10_anew_142 : decode cX10_anew 142 = .ok (.if_icmp .ge 16, 3) := by decide +kernel
theorem dX10_anew_145 : decode cX10_anew 145 = .ok (.aload_n 0, 1) := by decide +kernel
theorem dX10_anew_146 : decode cX10_anew 146 = .ok (.getfield 47, 3) := by decide +kernel
theorem dX10_anew_149 : decode cX10_anew 149 = .ok (.iload_n 1, 1) := by decide +kernel
theorem dX10_anew_150 : decode cX10_anew 150 = .ok (.iload_n 1, 1) := by decide +kernel
theorem dX10_anew_151 : decode cX10_anew 151 = .ok (.iastore, 1) := by decide +kernel
theorem dX10_anew_152 : decode cX10_anew 152 = .ok (.iinc 1 1, 3) := by decide +kernel
theorem dX10_anew_155 : decode cX10_anew 155 = .ok (.goto (-16), 3) := by decide +kernel
theorem dX10_anew_158 : decode cX10_anew 158 = .ok (.iconst 0, 1) := by decide +kernel
theorem dX10_anew_159 : decode cX10_anew 159 = .ok (.istore_n 1, 1) := by decide +kernel
theorem dX10_anew_160 : decode cX10_anew 160 = .ok (.iload_n 1, 1) := by decide +kernel
theorem dX10_anew_161 : decode cX10_anew 161 = .ok (.bipush 6, 2) := by decide +kernel
theorem dX10_anew_163 : decode cX10_anew 163 = .ok (.if_icmp .ge 16, 3) := by decide +kernel
theorem dX10_anew_166 : decode cX10_anew 166 = .ok (.aload_n 0, 1) := by decide +kernel
theorem dX10_anew_167 : decode cX10_anew 167 = .ok (.getfield 59, 3) := by decide +kernel
theorem dX10_anew_170 : decode cX10_anew 170 = .ok (.iload_n 1, 1) := by decide +kernel
theorem dX10_anew_171 : decode cX10_anew 171 = .ok (.iconst 0, 1) := by decide +kernel
theorem dX10_anew_172 : decode cX10_anew 172 = .ok (.bastore, 1) := by decide +kernel
theorem dX10_anew_173 : decode cX10_anew 173 = .ok (.iinc 1 1, 3) := by decide +kernel
theorem dX10_anew_176 : decode cX10_anew 176 = .ok (.goto (-16), 3) := by decide +kernel
theorem dX10_anew_179 : decode cX10_anew 179 = .ok (.aload_n 0, 1) := by decide +kernel
theorem dX10_anew_180 : decode cX10_anew 180 = .ok (.iconst 0, 1) := by decide +kernel
theorem dX10_anew_181 : decode cX10_anew 181 = .ok (.putfield 73, 3) := by decide +kernel
theorem dX10_anew_184 : decode cX10_anew 184 = .ok (.aload_n 0, 1) := by decide +kernel
theorem dX10_anew_185 : decode cX10_anew 185 = .ok (.iconst 0, 1) := by decide +kernel
theorem dX10_anew_186 : decode cX10_anew 186 = .ok (.putfield 76, 3) := by decide +kernel
theorem dX10_anew_189 : decode cX10_anew 189 = .ok (.aload_n 0, 1) := by decide +kernel
theorem dX10_anew_190 : decode cX10_anew 190 = .ok (.iconst 0, 1) := by decide +kernel
theorem dX10_anew_191 : decode cX10_anew 191 = .ok (.putfield 79, 3) := by decide +kernel
theorem dX10_anew_194 : decode cX10_anew 194 = .ok (.aload_n 0, 1) := by decide +kernel
theorem dX10_anew_195 : decode cX10_anew 195 = .ok (.iconst 0, 1) := by decide +kernel
theorem dX10_anew_196 : decode cX10_anew 196 = .ok (.putfield 82, 3) := by decide +kernel
theorem dX10_anew_199 : decode cX10_anew 199 = .ok (.aload_n 0, 1) := by decide +kernel
theorem dX10_anew_200 : decode cX10_anew 200 = .ok (.iconst 0, 1) := by decide +kernel
theorem dX10_anew_201 : decode cX10_anew 201 = .ok (.putfield 85, 3) := by decide +kernel
theorem dX10_anew_204 : decode cX10_anew 204 = .ok (.aload_n 0, 1) := by decide +kernel
theorem dX10_anew_205 : decode cX10_anew 205 = .ok (.iconst 0, 1) := by decide +kernel
theorem dX10_anew_206 : decode cX10_anew 206 = .ok (.putfield 88, 3) := by decide +kernel
theorem dX10_anew_209 : decode cX10_anew 209 = .ok (.aload_n 0, 1) := by decide +kernel
theorem dX10_anew_210 : decode cX10_anew 210 = .ok (.iconst 0, 1) := by decide +kernel
theorem dX10_anew_211 : decode cX10_anew 211 = .ok (.putfield 91, 3) := by decide +kernel
theorem dX10_anew_214 : decode cX10_anew 214 = .ok (.aload_n 0, 1) := by decide +kernel
theorem dX10_anew_215 : decode cX10_anew 215 = .ok (.iconst 0, 1) := by decide +kernel
theorem dX10_anew_216 : decode cX10_anew 216 = .ok (.putfield 94, 3) := by decide +kernel
theorem dX10_anew_219 : decode cX10_anew 219 = .ok (.return_, 1) := by decide +kernel
theorem dX10_board_0 : decode cX10_board 0 = .ok (.iload_n 1, 1) := by decide +kernel
theorem dX10_board_1 : decode cX10_board 1 = .ok (.iconst 1, 1) := by decide +kernel
theorem dX10_board_2 : decode cX10_board 2 = .ok (.bipush 12, 2) := by decide +kernel
theorem dX10_board_4 : decode cX10_board 4 = .ok (.invokestatic 69, 3) := by decide +kernel
theorem dX10_board_7 : decode cX10_board 7 = .ok (.ifCond .eq 13, 3) := by decide +kernel
theorem dX10_board_10 : decode cX10_board 10 = .ok (.iload_n 2, 1) := by decide +kernel
theorem dX10_board_11 : decode cX10_board 11 = .ok (.iconst 1, 1) := by decide +kernel
theorem dX10_board_12 : decode cX10_board 12 = .ok (.bipush 10, 2) := by decide +kernel
theorem dX10_board_14 : decode cX10_board 14 = .ok (.invokestatic 69, 3) := by decide +kernel
theorem dX10_board_17 : decode cX10_board 17 = .ok (.ifCond .ne 5, 3) := by decide +kernel
theorem dX10_board_20 : decode cX10_board 20 = .ok (.iconst (-1), 1) := by decide +kernel
theorem dX10_board_21 : decode cX10_board 21 = .ok (.ireturn, 1) := by decide +kernel
theorem dX10_board_22 : decode cX10_board 22 = .ok (.aload_n 0, 1) := by decide +kernel
theorem dX10_board_23 : decode cX10_board 23 = .ok (.iload_n 1, 1) := by decide +kernel
theorem dX10_board_24 : decode cX10_board 24 = .ok (.putfield 7, 3) := by decide +kernel
theorem dX10_board_27 : decode cX10_board 27 = .ok (.aload_n 0, 1) := by decide +kernel
theorem dX10_board_28 : decode cX10_board 28 = .ok (.iload_n 2, 1) := by decide +kernel
theorem dX10_board_29 : decode cX10_board 29 = .ok (.putfield 13, 3) := by decide +kernel
theorem dX10_board_32 : decode cX10_board 32 = .ok (.aload_n 0, 1) := by decide +kernel
theorem dX10_board_33 : decode cX10_board 33 = .ok (.invokevirtual 66, 3) := by decide +kernel
theorem dX10_board_36 : decode cX10_board 36 = .ok (.iload_n 1, 1) := by decide +kernel
theorem dX10_board_37 : decode cX10_board 37 = .ok (.iload_n 2, 1) := by decide +kernel
theorem dX10_board_38 : decode cX10_board 38 = .ok (.imul, 1) := by decide +kernel
theorem dX10_board_39 : decode cX10_board 39 = .ok (.ireturn, 1) := by decide +kernel
theorem dX10_lay_0 : decode cX10_lay 0 = .ok (.aload_n 0, 1) := by decide +kernel
theorem dX10_lay_1 : decode cX10_lay 1 = .ok (.iload_n 1, 1) := by decide +kernel
theorem dX10_lay_2 : decode cX10_lay 2 = .ok (.invokevirtual 97, 3) := by decide +kernel
theorem dX10_lay_5 : decode cX10_lay 5 = .ok (.ifCond .eq 33, 3) := by decide +kernel
theorem dX10_lay_8 : decode cX10_lay 8 = .ok (.iload_n 2, 1) := by decide +kernel
theorem dX10_lay_9 : decode cX10_lay 9 = .ok (.iconst 0, 1) := by decide +kernel
theorem dX10_lay_10 : decode cX10_lay 10 = .ok (.iconst 1, 1) := by decide +kernel
theorem dX10_lay_11 : decode cX10_lay 11 = .ok (.invokestatic 69, 3) := by decide +kernel
theorem dX10_lay_14 : decode cX10_lay 14 = .ok (.ifCond .eq 24, 3) := by decide +kernel
theorem dX10_lay_17 : decode cX10_lay 17 = .ok (.iload_n 3, 1) := by decide +kernel
theorem dX10_lay_18 : decode cX10_lay 18 = .ok (.iconst 0, 1) := by decide +kernel
theorem dX10_lay_19 : decode cX10_lay 19 = .ok (.iload_n 2, 1) := by decide +kernel
theorem dX10_lay_20 : decode cX10_lay 20 = .ok (.ifCond .ne 9, 3) := by decide +kernel
theorem dX10_lay_23 : decode cX10_lay 23 = .ok (.sipush 400, 3) := by decide +kernel
theorem dX10_lay_26 : decode cX10_lay 26 = .ok (.goto 6, 3) := by decide +kernel
theorem dX10_lay_29 : decode cX10_lay 29 = .ok (.sipush 300, 3) := by decide +kernel
theorem dX10_lay_32 : decode cX10_lay 32 = .ok (.invokestatic 69, 3) := by decide +kernel
theorem dX10_lay_35 : decode cX10_lay 35 = .ok (.ifCond .ne 5, 3) := by decide +kernel
theorem dX10_lay_38 : decode cX10_lay 38 = .ok (.iconst (-1), 1) := by decide +kernel
theorem dX10_lay_39 : decode cX10_lay 39 = .ok (.ireturn, 1) := by decide +kernel
theorem dX10_lay_40 : decode cX10_lay 40 = .ok (.iload_n 2, 1) := by decide +kernel
theorem dX10_lay_41 : decode cX10_lay 41 = .ok (.ifCond .ne 12, 3) := by decide +kernel
theorem dX10_lay_44 : decode cX10_lay 44 = .ok (.aload_n 0, 1) := by decide +kernel
theorem dX10_lay_45 : decode cX10_lay 45 = .ok (.getfield 16, 3) := by decide +kernel
theorem dX10_lay_48 : decode cX10_lay 48 = .ok (.iload_n 1, 1) := by decide +kernel
theorem dX10_lay_49 : decode cX10_lay 49 = .ok (.iaload, 1) := by decide +kernel
theorem dX10_lay_50 : decode cX10_lay 50 = .ok (.goto 9, 3) := by decide +kernel
theorem dX10_lay_53 : decode cX10_lay 53 = .ok (.aload_n 0, 1) := by decide +kernel
theorem dX10_lay_54 : decode cX10_lay 54 = .ok (.getfield 20, 3) := by decide +kernel
theorem dX10_lay_57 : decode cX10_lay 57 = .ok (.iload_n 1, 1) := by decide +kernel
theorem dX10_lay_58 : decode cX10_lay 58 = .ok (.iaload, 1) := by decide +kernel
theorem dX10_lay_59 : decode cX10_lay 59 = .ok (.istore 4, 2) := by decide +kernel
theorem dX10_lay_61 : decode cX10_lay 61 = .ok (.aload_n 0, 1) := by decide +kernel
theorem dX10_lay_62 : decode cX10_lay 62 = .ok (.getfield 16, 3) := by decide +kernel
theorem dX10_lay_65 : decode cX10_lay 65 = .ok (.iload_n 1, 1) := by decide +kernel
theorem dX10_lay_66 : decode cX10_lay 66 = .ok (.iload_n 2, 1) := by decide +kernel
theorem dX10_lay_67 : decode cX10_lay 67 = .ok (.ifCond .ne 7, 3) := by decide +kernel
theorem dX10_lay_70 : decode cX10_lay 70 = .ok (.iload_n 3, 1) := by decide +kernel
theorem dX10_lay_71 : decode cX10_lay 71 = .ok (.goto 9, 3) := by decide +kernel
theorem dX10_lay_74 : decode cX10_lay 74 = .ok (.aload_n 0, 1) := by decide +kernel
theorem dX10_lay_75 : decode cX10_lay 75 = .ok (.getfield 16, 3) := by decide +kernel
theorem dX10_lay_78 : decode cX10_lay 78 = .ok (.iload_n 1, 1) := by decide +kernel
theorem dX10_lay_79 : decode cX10_lay 79 = .ok (.iaload, 1) := by decide +kernel
theorem dX10_lay_80 : decode cX10_lay 80 = .ok (.iastore, 1) := by decide +kernel
theorem dX10_lay_81 : decode cX10_lay 81 = .ok (.aload_n 0, 1) := by decide +kernel
theorem dX10_lay_82 : decode cX10_lay 82 = .ok (.getfield 20, 3) := by decide +kernel
theorem dX10_lay_85 : decode cX10_lay 85 = .ok (.iload_n 1, 1) := by decide +kernel
theorem dX10_lay_86 : decode cX10_lay 86 = .ok (.iload_n 2, 1) := by decide +kernel
theorem dX10_lay_87 : decode cX10_lay 87 = .ok (.iconst 1, 1) := by decide +kernel
theorem dX10_lay_88 : decode cX10_lay 88 = .ok (.if_icmp .ne 7, 3) := by decide +kernel
theorem dX10_lay_91 : decode cX10_lay 91 = .ok (.iload_n 3, 1) := by decide +kernel
theorem dX10_lay_92 : decode cX10_lay 92 = .ok (.goto 9, 3) := by decide +kernel
theorem dX10_lay_95 : decode cX10_lay 95 = .ok (.aload_n 0, 1) := by decide +kernel
theorem dX10_lay_96 : decode cX10_lay 96 = .ok (.getfield 20, 3) := by decide +kernel
theorem dX10_lay_99 : decode cX10_lay 99 = .ok (.iload_n 1, 1) := by decide +kernel
theorem dX10_lay_100 : decode cX10_lay 100 = .ok (.iaload, 1) := by decide +kernel
theorem dX10_lay_101 : decode cX10_lay 101 = .ok (.iastore, 1) := by decide +kernel
theorem dX10_lay_102 : decode cX10_lay 102 = .ok (.iload 4, 2) := by decide +kernel
theorem dX10_lay_104 : decode cX10_lay 104 = .ok (.ireturn, 1) := by decide +kernel
theorem dX10_rule_0 : decode cX10_rule 0 = .ok (.iload_n 1, 1) := by decide +kernel
theorem dX10_rule_1 : decode cX10_rule 1 = .ok (.ifCond .ne 13, 3) := by decide +kernel
theorem dX10_rule_4 : decode cX10_rule 4 = .ok (.iload_n 2, 1) := by decide +kernel
theorem dX10_rule_5 : decode cX10_rule 5 = .ok (.iconst 0, 1) := by decide +kernel
theorem dX10_rule_6 : decode cX10_rule 6 = .ok (.bipush 50, 2) := by decide +kernel
theorem dX10_rule_8 : decode cX10_rule 8 = .ok (.invokestatic 69, 3) := by decide +kernel
theorem dX10_rule_11 : decode cX10_rule 11 = .ok (.goto 42, 3) := by decide +kernel
theorem dX10_rule_14 : decode cX10_rule 14 = .ok (.iload_n 1, 1) := by decide +kernel
theorem dX10_rule_15 : decode cX10_rule 15 = .ok (.iconst 4, 1) := by decide +kernel
theorem dX10_rule_16 : decode cX10_rule 16 = .ok (.if_icmp .ne 12, 3) := by decide +kernel
theorem dX10_rule_19 : decode cX10_rule 19 = .ok (.iload_n 2, 1) := by decide +kernel
theorem dX10_rule_20 : decode cX10_rule 20 = .ok (.iconst (-1), 1) := by decide +kernel
theorem dX10_rule_21 : decode cX10_rule 21 = .ok (.iconst 1, 1) := by decide +kernel
theorem dX10_rule_22 : decode cX10_rule 22 = .ok (.invokestatic 69, 3) := by decide +kernel
theorem dX10_rule_25 : decode cX10_rule 25 = .ok (.goto 28, 3) := by decide +kernel
theorem dX10_rule_28 : decode cX10_rule 28 = .ok (.iload_n 1, 1) := by decide +kernel
theorem dX10_rule_29 : decode cX10_rule 29 = .ok (.iconst 1, 1) := by decide +kernel
theorem dX10_rule_30 : decode cX10_rule 30 = .ok (.iconst 3, 1) := by decide +kernel
theorem dX10_rule_31 : decode cX10_rule 31 = .ok (.invokestatic 69, 3) := by decide +kernel
theorem dX10_rule_34 : decode cX10_rule 34 = .ok (.ifCond .eq 18, 3) := by decide +kernel
theorem dX10_rule_37 : decode cX10_rule 37 = .ok (.iload_n 2, 1) := by decide +kernel
theorem dX10_rule_38 : decode cX10_rule 38 = .ok (.iconst 0, 1) := by decide +kernel
theorem dX10_rule_39 : decode cX10_rule 39 = .ok (.sipush 400, 3) := by decide +kernel
theorem dX10_rule_42 : decode cX10_rule 42 = .ok (.invokestatic 69, 3) := by decide +kernel
theorem dX10_rule_45 : decode cX10_rule 45 = .ok (.ifCond .eq 7, 3) := by decide +kernel
theorem dX10_rule_48 : decode cX10_rule 48 = .ok (.iconst 1, 1) := by decide +kernel
theorem dX10_rule_49 : decode cX10_rule 49 = .ok (.goto 4, 3) := by decide +kernel
theorem dX10_rule_52 : decode cX10_rule 52 = .ok (.iconst 0, 1) := by decide +kernel
theorem dX10_rule_53 : decode cX10_rule 53 = .ok (.istore_n 3, 1) := by decide +kernel
theorem dX10_rule_54 : decode cX10_rule 54 = .ok (.iload_n 3, 1) := by decide +kernel
theorem dX10_rule_55 : decode cX10_rule 55 = .ok (.ifCond .ne 6, 3) := by decide +kernel
theorem dX10_rule_58 : decode cX10_rule 58 = .ok (.bipush (-9), 2) := by decide +kernel
theorem dX10_rule_60 : decode cX10_rule 60 = .ok (.ireturn, 1) := by decide +kernel
theorem dX10_rule_61 : decode cX10_rule 61 = .ok (.aload_n 0, 1) := by decide +kernel
theorem dX10_rule_62 : decode cX10_rule 62 = .ok (.getfield 32, 3) := by decide +kernel
theorem dX10_rule_65 : decode cX10_rule 65 = .ok (.iload_n 1, 1) := by decide +kernel
theorem dX10_rule_66 : decode cX10_rule 66 = .ok (.iaload, 1) := by decide +kernel
theorem dX10_rule_67 : decode cX10_rule 67 = .ok (.istore 4, 2) := by decide +kernel
theorem dX10_rule_69 : decode cX10_rule 69 = .ok (.aload_n 0, 1) := by decide +kernel
theorem dX10_rule_70 : decode cX10_rule 70 = .ok (.getfield 32, 3) := by decide +kernel
theorem dX10_rule_73 : decode cX10_rule 73 = .ok (.iload_n 1, 1) := by decide +kernel
theorem dX10_rule_74 : decode cX10_rule 74 = .ok (.iload_n 2, 1) := by decide +kernel
theorem dX10_rule_75 : decode cX10_rule 75 = .ok (.iastore, 1) := by decide +kernel
theorem dX10_rule_76 : decode cX10_rule 76 = .ok (.iload 4, 2) := by decide +kernel
theorem dX10_rule_78 : decode cX10_rule 78 = .ok (.ireturn, 1) := by decide +kernel
theorem dX10_tide_0 : decode cX10_tide 0 = .ok (.iload_n 1, 1) := by decide +kernel
theorem dX10_tide_1 : decode cX10_tide 1 = .ok (.iconst 0, 1) := by decide +kernel
theorem dX10_tide_2 : decode cX10_tide 2 = .ok (.bipush 11, 2) := by decide +kernel
theorem dX10_tide_4 : decode cX10_tide 4 = .ok (.invokestatic 69, 3) := by decide +kernel
theorem dX10_tide_7 : decode cX10_tide 7 = .ok (.ifCond .eq 13, 3) := by decide +kernel
theorem dX10_tide_10 : decode cX10_tide 10 = .ok (.iload_n 2, 1) := by decide +kernel
theorem dX10_tide_11 : decode cX10_tide 11 = .ok (.iconst 0, 1) := by decide +kernel
theorem dX10_tide_12 : decode cX10_tide 12 = .ok (.bipush 60, 2) := by decide +kernel
theorem dX10_tide_14 : decode cX10_tide 14 = .ok (.invokestatic 69, 3) := by decide +kernel
theorem dX10_tide_17 : decode cX10_tide 17 = .ok (.ifCond .ne 5, 3) := by decide +kernel
theorem dX10_tide_20 : decode cX10_tide 20 = .ok (.iconst (-1), 1) := by decide +kernel
theorem dX10_tide_21 : decode cX10_tide 21 = .ok (.ireturn, 1) := by decide +kernel
theorem dX10_tide_22 : decode cX10_tide 22 = .ok (.aload_n 0, 1) := by decide +kernel
theorem dX10_tide_23 : decode cX10_tide 23 = .ok (.getfield 35, 3) := by decide +kernel
theorem dX10_tide_26 : decode cX10_tide 26 = .ok (.iload_n 1, 1) := by decide +kernel
theorem dX10_tide_27 : decode cX10_tide 27 = .ok (.iaload, 1) := by decide +kernel
theorem dX10_tide_28 : decode cX10_tide 28 = .ok (.istore_n 3, 1) := by decide +kernel
theorem dX10_tide_29 : decode cX10_tide 29 = .ok (.aload_n 0, 1) := by decide +kernel
theorem dX10_tide_30 : decode cX10_tide 30 = .ok (.getfield 35, 3) := by decide +kernel
theorem dX10_tide_33 : decode cX10_tide 33 = .ok (.iload_n 1, 1) := by decide +kernel
theorem dX10_tide_34 : decode cX10_tide 34 = .ok (.iload_n 2, 1) := by decide +kernel
theorem dX10_tide_35 : decode cX10_tide 35 = .ok (.iastore, 1) := by decide +kernel
theorem dX10_tide_36 : decode cX10_tide 36 = .ok (.iload_n 3, 1) := by decide +kernel
theorem dX10_tide_37 : decode cX10_tide 37 = .ok (.ireturn, 1) := by decide +kernel
theorem dX10_hold_0 : decode cX10_hold 0 = .ok (.iload_n 1, 1) := by decide +kernel
theorem dX10_hold_1 : decode cX10_hold 1 = .ok (.iconst 1, 1) := by decide +kernel
theorem dX10_hold_2 : decode cX10_hold 2 = .ok (.bipush 30, 2) := by decide +kernel
theorem dX10_hold_4 : decode cX10_hold 4 = .ok (.invokestatic 69, 3) := by decide +kernel
theorem dX10_hold_7 : decode cX10_hold 7 = .ok (.ifCond .eq 14, 3) := by decide +kernel
theorem dX10_hold_10 : decode cX10_hold 10 = .ok (.iload_n 2, 1) := by decide +kernel
theorem dX10_hold_11 : decode cX10_hold 11 = .ok (.iconst 0, 1) := by decide +kernel
theorem dX10_hold_12 : decode cX10_hold 12 = .ok (.sipush 200, 3) := by decide +kernel
theorem dX10_hold_15 : decode cX10_hold 15 = .ok (.invokestatic 69, 3) := by decide +kernel
theorem dX10_hold_18 : decode cX10_hold 18 = .ok (.ifCond .ne 5, 3) := by decide +kernel
theorem dX10_hold_21 : decode cX10_hold 21 = .ok (.iconst (-1), 1) := by decide +kernel
theorem dX10_hold_22 : decode cX10_hold 22 = .ok (.ireturn, 1) := by decide +kernel
theorem dX10_hold_23 : decode cX10_hold 23 = .ok (.aload_n 0, 1) := by decide +kernel
theorem dX10_hold_24 : decode cX10_hold 24 = .ok (.getfield 47, 3) := by decide +kernel
theorem dX10_hold_27 : decode cX10_hold 27 = .ok (.iload_n 1, 1) := by decide +kernel
theorem dX10_hold_28 : decode cX10_hold 28 = .ok (.iaload, 1) := by decide +kernel
theorem dX10_hold_29 : decode cX10_hold 29 = .ok (.istore_n 3, 1) := by decide +kernel
theorem dX10_hold_30 : decode cX10_hold 30 = .ok (.aload_n 0, 1) := by decide +kernel
theorem dX10_hold_31 : decode cX10_hold 31 = .ok (.getfield 47, 3) := by decide +kernel
theorem dX10_hold_34 : decode cX10_hold 34 = .ok (.iload_n 1, 1) := by decide +kernel
theorem dX10_hold_35 : decode cX10_hold 35 = .ok (.iload_n 2, 1) := by decide +kernel
theorem dX10_hold_36 : decode cX10_hold 36 = .ok (.iastore, 1) := by decide +kernel
theorem dX10_hold_37 : decode cX10_hold 37 = .ok (.iconst 1, 1) := by decide +kernel
theorem dX10_hold_38 : decode cX10_hold 38 = .ok (.istore 4, 2) := by decide +kernel
theorem dX10_hold_40 : decode cX10_hold 40 = .ok (.iload 4, 2) := by decide +kernel
theorem dX10_hold_42 : decode cX10_hold 42 = .ok (.bipush 31, 2) := by decide +kernel
theorem dX10_hold_44 : decode cX10_hold 44 = .ok (.if_icmp .ge 61, 3) := by decide +kernel
theorem dX10_hold_47 : decode cX10_hold 47 = .ok (.aload_n 0, 1) := by decide +kernel
theorem dX10_hold_48 : decode cX10_hold 48 = .ok (.getfield 47, 3) := by decide +kernel
theorem dX10_hold_51 : decode cX10_hold 51 = .ok (.iload 4, 2) := by decide +kernel
theorem dX10_hold_53 : decode cX10_hold 53 = .ok (.iload 4, 2) := by decide +kernel
theorem dX10_hold_55 : decode cX10_hold 55 = .ok (.iload_n 1, 1) := by decide +kernel
theorem dX10_hold_56 : decode cX10_hold 56 = .ok (.if_icmp .le 14, 3) := by decide +kernel
theorem dX10_hold_59 : decode cX10_hold 59 = .ok (.aload_n 0, 1) := by decide +kernel
theorem dX10_hold_60 : decode cX10_hold 60 = .ok (.getfield 47, 3) := by decide +kernel
theorem dX10_hold_63 : decode cX10_hold 63 = .ok (.iload 4, 2) := by decide +kernel
theorem dX10_hold_65 : decode cX10_hold 65 = .ok (.iaload, 1) := by decide +kernel
theorem dX10_hold_66 : decode cX10_hold 66 = .ok (.iload_n 2, 1) := by decide +kernel
theorem dX10_hold_67 : decode cX10_hold 67 = .ok (.if_icmp .lt 20, 3) := by decide +kernel
theorem dX10_hold_70 : decode cX10_hold 70 = .ok (.iload 4, 2) := by decide +kernel
theorem dX10_hold_72 : decode cX10_hold 72 = .ok (.iload_n 1, 1) := by decide +kernel
theorem dX10_hold_73 : decode cX10_hold 73 = .ok (.if_icmp .ge 18, 3) := by decide +kernel
theorem dX10_hold_76 : decode cX10_hold 76 = .ok (.aload_n 0, 1) := by decide +kernel
theorem dX10_hold_77 : decode cX10_hold 77 = .ok (.getfield 47, 3) := by decide +kernel
theorem dX10_hold_80 : decode cX10_hold 80 = .ok (.iload 4, 2) := by decide +kernel
theorem dX10_hold_82 : decode cX10_hold 82 = .ok (.iaload, 1) := by decide +kernel
theorem dX10_hold_83 : decode cX10_hold 83 = .ok (.iload_n 2, 1) := by decide +kernel
theorem dX10_hold_84 : decode cX10_hold 84 = .ok (.if_icmp .le 7, 3) := by decide +kernel
theorem dX10_hold_87 : decode cX10_hold 87 = .ok (.iload_n 2, 1) := by decide +kernel
theorem dX10_hold_88 : decode cX10_hold 88 = .ok (.goto 10, 3) := by decide +kernel
theorem dX10_hold_91 : decode cX10_hold 91 = .ok (.aload_n 0, 1) := by decide +kernel
theorem dX10_hold_92 : decode cX10_hold 92 = .ok (.getfield 47, 3) := by decide +kernel
theorem dX10_hold_95 : decode cX10_hold 95 = .ok (.iload 4, 2) := by decide +kernel
theorem dX10_hold_97 : decode cX10_hold 97 = .ok (.iaload, 1) := by decide +kernel
theorem dX10_hold_98 : decode cX10_hold 98 = .ok (.iastore, 1) := by decide +kernel
theorem dX10_hold_99 : decode cX10_hold 99 = .ok (.iinc 4 1, 3) := by decide +kernel
theorem dX10_hold_102 : decode cX10_hold 102 = .ok (.goto (-62), 3) := by decide +kernel
theorem dX10_hold_105 : decode cX10_hold 105 = .ok (.iload_n 3, 1) := by decide +kernel
theorem dX10_hold_106 : decode cX10_hold 106 = .ok (.ireturn, 1) := by decide +kernel
theorem dX10_isSpot_0 : decode cX10_isSpot 0 = .ok (.iload_n 0, 1) := by decide +kernel
theorem dX10_isSpot_1 : decode cX10_isSpot 1 = .ok (.iconst 0, 1) := by decide +kernel
theorem dX10_isSpot_2 : decode cX10_isSpot 2 = .ok (.iconst 2, 1) := by decide +kernel
theorem dX10_isSpot_3 : decode cX10_isSpot 3 = .ok (.invokestatic 69, 3) := by decide +kernel
theorem dX10_isSpot_6 : decode cX10_isSpot 6 = .ok (.ireturn, 1) := by decide +kernel
theorem dX10_spot_0 : decode cX10_spot 0 = .ok (.iload_n 1, 1) := by decide +kernel
theorem dX10_spot_1 : decode cX10_spot 1 = .ok (.invokestatic 101, 3) := by decide +kernel
theorem dX10_spot_4 : decode cX10_spot 4 = .ok (.ifCond .eq 23, 3) := by decide +kernel
theorem dX10_spot_7 : decode cX10_spot 7 = .ok (.iload_n 2, 1) := by decide +kernel
theorem dX10_spot_8 : decode cX10_spot 8 = .ok (.iconst 0, 1) := by decide +kernel
theorem dX10_spot_9 : decode cX10_spot 9 = .ok (.ldc 104, 2) := by decide +kernel
theorem dX10_spot_11 : decode cX10_spot 11 = .ok (.invokestatic 69, 3) := by decide +kernel
theorem dX10_spot_14 : decode cX10_spot 14 = .ok (.ifCond .eq 13, 3) := by decide +kernel
theorem dX10_spot_17 : decode cX10_spot 17 = .ok (.iload_n 3, 1) := by decide +kernel
theorem dX10_spot_18 : decode cX10_spot 18 = .ok (.iconst 1, 1) := by decide +kernel
theorem dX10_spot_19 : decode cX10_spot 19 = .ok (.bipush 20, 2) := by decide +kernel
theorem dX10_spot_21 : decode cX10_spot 21 = .ok (.invokestatic 69, 3) := by decide +kernel
theorem dX10_spot_24 : decode cX10_spot 24 = .ok (.ifCond .ne 5, 3) := by decide +kernel
theorem dX10_spot_27 : decode cX10_spot 27 = .ok (.iconst (-1), 1) := by decide +kernel
theorem dX10_spot_28 : decode cX10_spot 28 = .ok (.ireturn, 1) := by decide +kernel
theorem dX10_spot_29 : decode cX10_spot 29 = .ok (.aload_n 0, 1) := by decide +kernel
theorem dX10_spot_30 : decode cX10_spot 30 = .ok (.getfield 44, 3) := by decide +kernel
theorem dX10_spot_33 : decode cX10_spot 33 = .ok (.iload_n 1, 1) := by decide +kernel
theorem dX10_spot_34 : decode cX10_spot 34 = .ok (.iaload, 1) := by decide +kernel
theorem dX10_spot_35 : decode cX10_spot 35 = .ok (.iload_n 2, 1) := by decide +kernel
theorem dX10_spot_36 : decode cX10_spot 36 = .ok (.if_icmp .le 6, 3) := by decide +kernel
theorem dX10_spot_39 : decode cX10_spot 39 = .ok (.bipush (-2), 2) := by decide +kernel
theorem dX10_spot_41 : decode cX10_spot 41 = .ok (.ireturn, 1) := by decide +kernel
theorem dX10_spot_42 : decode cX10_spot 42 = .ok (.aload_n 0, 1) := by decide +kernel
theorem dX10_spot_43 : decode cX10_spot 43 = .ok (.getfield 38, 3) := by decide +kernel
theorem dX10_spot_46 : decode cX10_spot 46 = .ok (.iload_n 1, 1) := by decide +kernel
theorem dX10_spot_47 : decode cX10_spot 47 = .ok (.iload_n 2, 1) := by decide +kernel
theorem dX10_spot_48 : decode cX10_spot 48 = .ok (.iastore, 1) := by decide +kernel
theorem dX10_spot_49 : decode cX10_spot 49 = .ok (.aload_n 0, 1) := by decide +kernel
theorem dX10_spot_50 : decode cX10_spot 50 = .ok (.getfield 41, 3) := by decide +kernel
theorem dX10_spot_53 : decode cX10_spot 53 = .ok (.iload_n 1, 1) := by decide +kernel
theorem dX10_spot_54 : decode cX10_spot 54 = .ok (.iload_n 3, 1) := by decide +kernel
theorem dX10_spot_55 : decode cX10_spot 55 = .ok (.iastore, 1) := by decide +kernel
theorem dX10_spot_56 : decode cX10_spot 56 = .ok (.aload_n 0, 1) := by decide +kernel
theorem dX10_spot_57 : decode cX10_spot 57 = .ok (.getfield 44, 3) := by decide +kernel
theorem dX10_spot_60 : decode cX10_spot 60 = .ok (.iload_n 1, 1) := by decide +kernel
theorem dX10_spot_61 : decode cX10_spot 61 = .ok (.iaload, 1) := by decide +kernel
theorem dX10_spot_62 : decode cX10_spot 62 = .ok (.ireturn, 1) := by decide +kernel
theorem dX10_post_0 : decode cX10_post 0 = .ok (.aload_n 0, 1) := by decide +kernel
theorem dX10_post_1 : decode cX10_post 1 = .ok (.iload_n 1, 1) := by decide +kernel
theorem dX10_post_2 : decode cX10_post 2 = .ok (.invokevirtual 97, 3) := by decide +kernel
theorem dX10_post_5 : decode cX10_post 5 = .ok (.ifCond .eq 14, 3) := by decide +kernel
theorem dX10_post_8 : decode cX10_post 8 = .ok (.iload_n 2, 1) := by decide +kernel
theorem dX10_post_9 : decode cX10_post 9 = .ok (.iconst 0, 1) := by decide +kernel
theorem dX10_post_10 : decode cX10_post 10 = .ok (.sipush 10000, 3) := by decide +kernel
theorem dX10_post_13 : decode cX10_post 13 = .ok (.invokestatic 69, 3) := by decide +kernel
theorem dX10_post_16 : decode cX10_post 16 = .ok (.ifCond .ne 5, 3) := by decide +kernel
theorem dX10_post_19 : decode cX10_post 19 = .ok (.iconst (-1), 1) := by decide +kernel
theorem dX10_post_20 : decode cX10_post 20 = .ok (.ireturn, 1) := by decide +kernel
theorem dX10_post_21 : decode cX10_post 21 = .ok (.aload_n 0, 1) := by decide +kernel
theorem dX10_post_22 : decode cX10_post 22 = .ok (.getfield 73, 3) := by decide +kernel
theorem dX10_post_25 : decode cX10_post 25 = .ok (.bipush 8, 2) := by decide +kernel
theorem dX10_post_27 : decode cX10_post 27 = .ok (.if_icmp .ne 6, 3) := by decide +kernel
theorem dX10_post_30 : decode cX10_post 30 = .ok (.bipush (-3), 2) := by decide +kernel
theorem dX10_post_32 : decode cX10_post 32 = .ok (.ireturn, 1) := by decide +kernel
theorem dX10_post_33 : decode cX10_post 33 = .ok (.aload_n 0, 1) := by decide +kernel
theorem dX10_post_34 : decode cX10_post 34 = .ok (.getfield 50, 3) := by decide +kernel
theorem dX10_post_37 : decode cX10_post 37 = .ok (.aload_n 0, 1) := by decide +kernel
theorem dX10_post_38 : decode cX10_post 38 = .ok (.getfield 73, 3) := by decide +kernel
theorem dX10_post_41 : decode cX10_post 41 = .ok (.iload_n 1, 1) := by decide +kernel
theorem dX10_post_42 : decode cX10_post 42 = .ok (.iastore, 1) := by decide +kernel
theorem dX10_post_43 : decode cX10_post 43 = .ok (.aload_n 0, 1) := by decide +kernel
theorem dX10_post_44 : decode cX10_post 44 = .ok (.getfield 53, 3) := by decide +kernel
theorem dX10_post_47 : decode cX10_post 47 = .ok (.aload_n 0, 1) := by decide +kernel
theorem dX10_post_48 : decode cX10_post 48 = .ok (.getfield 73, 3) := by decide +kernel
theorem dX10_post_51 : decode cX10_post 51 = .ok (.iload_n 2, 1) := by decide +kernel
theorem dX10_post_52 : decode cX10_post 52 = .ok (.iastore, 1) := by decide +kernel
theorem dX10_post_53 : decode cX10_post 53 = .ok (.aload_n 0, 1) := by decide +kernel
theorem dX10_post_54 : decode cX10_post 54 = .ok (.getfield 56, 3) := by decide +kernel
theorem dX10_post_57 : decode cX10_post 57 = .ok (.aload_n 0, 1) := by decide +kernel
theorem dX10_post_58 : decode cX10_post 58 = .ok (.getfield 73, 3) := by decide +kernel
theorem dX10_post_61 : decode cX10_post 61 = .ok (.iconst 0, 1) := by decide +kernel
theorem dX10_post_62 : decode cX10_post 62 = .ok (.iastore, 1) := by decide +kernel
theorem dX10_post_63 : decode cX10_post 63 = .ok (.aload_n 0, 1) := by decide +kernel
theorem dX10_post_64 : decode cX10_post 64 = .ok (.dup, 1) := by decide +kernel
theorem dX10_post_65 : decode cX10_post 65 = .ok (.getfield 73, 3) := by decide +kernel
theorem dX10_post_68 : decode cX10_post 68 = .ok (.iconst 1, 1) := by decide +kernel
theorem dX10_post_69 : decode cX10_post 69 = .ok (.iadd, 1) := by decide +kernel
theorem dX10_post_70 : decode cX10_post 70 = .ok (.putfield 73, 3) := by decide +kernel
theorem dX10_post_73 : decode cX10_post 73 = .ok (.aload_n 0, 1) := by decide +kernel
theorem dX10_post_74 : decode cX10_post 74 = .ok (.getfield 73, 3) := by decide +kernel
theorem dX10_post_77 : decode cX10_post 77 = .ok (.iconst 1, 1) := by decide +kernel
theorem dX10_post_78 : decode cX10_post 78 = .ok (.isub, 1) := by decide +kernel
theorem dX10_post_79 : decode cX10_post 79 = .ok (.ireturn, 1) := by decide +kernel
theorem dX10_best_0 : decode cX10_best 0 = .ok (.iload_n 1, 1) := by decide +kernel
theorem dX10_best_1 : decode cX10_best 1 = .ok (.invokestatic 101, 3) := by decide +kernel
theorem dX10_best_4 : decode cX10_best 4 = .ok (.ifCond .ne 5, 3) := by decide +kernel
theorem dX10_best_7 : decode cX10_best 7 = .ok (.iconst (-1), 1) := by decide +kernel
theorem dX10_best_8 : decode cX10_best 8 = .ok (.ireturn, 1) := by decide +kernel
theorem dX10_best_9 : decode cX10_best 9 = .ok (.iconst 1, 1) := by decide +kernel
theorem dX10_best_10 : decode cX10_best 10 = .ok (.istore_n 2, 1) := by decide +kernel
theorem dX10_best_11 : decode cX10_best 11 = .ok (.iconst 2, 1) := by decide +kernel
theorem dX10_best_12 : decode cX10_best 12 = .ok (.istore_n 3, 1) := by decide +kernel
theorem dX10_best_13 : decode cX10_best 13 = .ok (.iload_n 3, 1) := by decide +kernel
theorem dX10_best_14 : decode cX10_best 14 = .ok (.bipush 31, 2) := by decide +kernel
theorem dX10_best_16 : decode cX10_best 16 = .ok (.if_icmp .ge 54, 3) := by decide +kernel
theorem dX10_best_19 : decode cX10_best 19 = .ok (.aload_n 0, 1) := by decide +kernel
theorem dX10_best_20 : decode cX10_best 20 = .ok (.getfield 47, 3) := by decide +kernel
theorem dX10_best_23 : decode cX10_best 23 = .ok (.iload_n 3, 1) := by decide +kernel
theorem dX10_best_24 : decode cX10_best 24 = .ok (.iaload, 1) := by decide +kernel
theorem dX10_best_25 : decode cX10_best 25 = .ok (.iload_n 2, 1) := by decide +kernel
theorem dX10_best_26 : decode cX10_best 26 = .ok (.bipush 120, 2) := by decide +kernel
theorem dX10_best_28 : decode cX10_best 28 = .ok (.aload_n 0, 1) := by decide +kernel
theorem dX10_best_29 : decode cX10_best 29 = .ok (.getfield 41, 3) := by decide +kernel
theorem dX10_best_32 : decode cX10_best 32 = .ok (.iload_n 1, 1) := by decide +kernel
theorem dX10_best_33 : decode cX10_best 33 = .ok (.iaload, 1) := by decide +kernel
theorem dX10_best_34 : decode cX10_best 34 = .ok (.imul, 1) := by decide +kernel
theorem dX10_best_35 : decode cX10_best 35 = .ok (.iadd, 1) := by decide +kernel
theorem dX10_best_36 : decode cX10_best 36 = .ok (.imul, 1) := by decide +kernel
theorem dX10_best_37 : decode cX10_best 37 = .ok (.aload_n 0, 1) := by decide +kernel
theorem dX10_best_38 : decode cX10_best 38 = .ok (.getfield 47, 3) := by decide +kernel
theorem dX10_best_41 : decode cX10_best 41 = .ok (.iload_n 2, 1) := by decide +kernel
theorem dX10_best_42 : decode cX10_best 42 = .ok (.iaload, 1) := by decide +kernel
theorem dX10_best_43 : decode cX10_best 43 = .ok (.iload_n 3, 1) := by decide +kernel
theorem dX10_best_44 : decode cX10_best 44 = .ok (.bipush 120, 2) := by decide +kernel
theorem dX10_best_46 : decode cX10_best 46 = .ok (.aload_n 0, 1) := by decide +kernel
theorem dX10_best_47 : decode cX10_best 47 = .ok (.getfield 41, 3) := by decide +kernel
theorem dX10_best_50 : decode cX10_best 50 = .ok (.iload_n 1, 1) := by decide +kernel
theorem dX10_best_51 : decode cX10_best 51 = .ok (.iaload, 1) := by decide +kernel
theorem dX10_best_52 : decode cX10_best 52 = .ok (.imul, 1) := by decide +kernel
theorem dX10_best_53 : decode cX10_best 53 = .ok (.iadd, 1) := by decide +kernel
theorem dX10_best_54 : decode cX10_best 54 = .ok (.imul, 1) := by decide +kernel
theorem dX10_best_55 : decode cX10_best 55 = .ok (.if_icmp .le 7, 3) := by decide +kernel
theorem dX10_best_58 : decode cX10_best 58 = .ok (.iload_n 3, 1) := by decide +kernel
theorem dX10_best_59 : decode cX10_best 59 = .ok (.goto 4, 3) := by decide +kernel
theorem dX10_best_62 : decode cX10_best 62 = .ok (.iload_n 2, 1) := by decide +kernel
theorem dX10_best_63 : decode cX10_best 63 = .ok (.istore_n 2, 1) := by decide +kernel
theorem dX10_best_64 : decode cX10_best 64 = .ok (.iinc 3 1, 3) := by decide +kernel
theorem dX10_best_67 : decode cX10_best 67 = .ok (.goto (-54), 3) := by decide +kernel
theorem dX10_best_70 : decode cX10_best 70 = .ok (.iload_n 2, 1) := by decide +kernel
theorem dX10_best_71 : decode cX10_best 71 = .ok (.ireturn, 1) := by decide +kernel
theorem dX10_drifts_0 : decode cX10_drifts 0 = .ok (.aload_n 0, 1) := by decide +kernel
theorem dX10_drifts_1 : decode cX10_drifts 1 = .ok (.getfield 32, 3) := by decide +kernel
theorem dX10_drifts_4 : decode cX10_drifts 4 = .ok (.iconst 4, 1) := by decide +kernel
theorem dX10_drifts_5 : decode cX10_drifts 5 = .ok (.iaload, 1) := by decide +kernel
theorem dX10_drifts_6 : decode cX10_drifts 6 = .ok (.istore_n 1, 1) := by decide +kernel
theorem dX10_drifts_7 : decode cX10_drifts 7 = .ok (.iconst 0, 1) := by decide +kernel
theorem dX10_drifts_8 : decode cX10_drifts 8 = .ok (.istore_n 2, 1) := by decide +kernel
theorem dX10_drifts_9 : decode cX10_drifts 9 = .ok (.iload_n 2, 1) := by decide +kernel
theorem dX10_drifts_10 : decode cX10_drifts 10 = .ok (.aload_n 0, 1) := by decide +kernel
theorem dX10_drifts_11 : decode cX10_drifts 11 = .ok (.getfield 7, 3) := by decide +kernel
theorem dX10_drifts_14 : decode cX10_drifts 14 = .ok (.aload_n 0, 1) := by decide +kernel
theorem dX10_drifts_15 : decode cX10_drifts 15 = .ok (.getfield 13, 3) := by decide +kernel
theorem dX10_drifts_18 : decode cX10_drifts 18 = .ok (.imul, 1) := by decide +kernel
theorem dX10_drifts_19 : decode cX10_drifts 19 = .ok (.if_icmp .ge 16, 3) := by decide +kernel
theorem dX10_drifts_22 : decode cX10_drifts 22 = .ok (.aload_n 0, 1) := by decide +kernel
theorem dX10_drifts_23 : decode cX10_drifts 23 = .ok (.getfield 29, 3) := by decide +kernel
theorem dX10_drifts_26 : decode cX10_drifts 26 = .ok (.iload_n 2, 1) := by decide +kernel
theorem dX10_drifts_27 : decode cX10_drifts 27 = .ok (.iconst 0, 1) := by decide +kernel
theorem dX10_drifts_28 : decode cX10_drifts 28 = .ok (.iastore, 1) := by decide +kernel
theorem dX10_drifts_29 : decode cX10_drifts 29 = .ok (.iinc 2 1, 3) := by decide +kernel
theorem dX10_drifts_32 : decode cX10_drifts 32 = .ok (.goto (-23), 3) := by decide +kernel
theorem dX10_drifts_35 : decode cX10_drifts 35 = .ok (.iconst 0, 1) := by decide +kernel
theorem dX10_drifts_36 : decode cX10_drifts 36 = .ok (.istore_n 2, 1) := by decide +kernel
theorem dX10_drifts_37 : decode cX10_drifts 37 = .ok (.iload_n 2, 1) := by decide +kernel
theorem dX10_drifts_38 : decode cX10_drifts 38 = .ok (.aload_n 0, 1) := by decide +kernel
theorem dX10_drifts_39 : decode cX10_drifts 39 = .ok (.getfield 7, 3) := by decide +kernel
theorem dX10_drifts_42 : decode cX10_drifts 42 = .ok (.aload_n 0, 1) := by decide +kernel
theorem dX10_drifts_43 : decode cX10_drifts 43 = .ok (.getfield 13, 3) := by decide +kernel
theorem dX10_drifts_46 : decode cX10_drifts 46 = .ok (.imul, 1) := by decide +kernel
theorem dX10_drifts_47 : decode cX10_drifts 47 = .ok (.if_icmp .ge 173, 3) := by decide +kernel
theorem dX10_drifts_50 : decode cX10_drifts 50 = .ok (.iload_n 1, 1) := by decide +kernel
theorem dX10_drifts_51 : decode cX10_drifts 51 = .ok (.ifCond .ne 7, 3) := by decide +kernel
theorem dX10_drifts_54 : decode cX10_drifts 54 = .ok (.iconst 0, 1) := by decide +kernel
theorem dX10_drifts_55 : decode cX10_drifts 55 = .ok (.goto 11, 3) := by decide +kernel
theorem dX10_drifts_58 : decode cX10_drifts 58 = .ok (.aload_n 0, 1) := by decide +kernel
theorem dX10_drifts_59 : decode cX10_drifts 59 = .ok (.getfield 23, 3) := by decide +kernel
theorem dX10_drifts_62 : decode cX10_drifts 62 = .ok (.iload_n 2, 1) := by decide +kernel
theorem dX10_drifts_63 : decode cX10_drifts 63 = .ok (.iaload, 1) := by decide +kernel
theorem dX10_drifts_64 : decode cX10_drifts 64 = .ok (.iconst 2, 1) := by decide +kernel
theorem dX10_drifts_65 : decode cX10_drifts 65 = .ok (.idiv, 1) := by decide +kernel
theorem dX10_drifts_66 : decode cX10_drifts 66 = .ok (.istore_n 3, 1) := by decide +kernel
theorem dX10_drifts_67 : decode cX10_drifts 67 = .ok (.aload_n 0, 1) := by decide +kernel
theorem dX10_drifts_68 : decode cX10_drifts 68 = .ok (.getfield 23, 3) := by decide +kernel
theorem dX10_drifts_71 : decode cX10_drifts 71 = .ok (.iload_n 2, 1) := by decide +kernel
theorem dX10_drifts_72 : decode cX10_drifts 72 = .ok (.iaload, 1) := by decide +kernel
theorem dX10_drifts_73 : decode cX10_drifts 73 = .ok (.iconst 4, 1) := by decide +kernel
theorem dX10_drifts_74 : decode cX10_drifts 74 = .ok (.idiv, 1) := by decide +kernel
theorem dX10_drifts_75 : decode cX10_drifts 75 = .ok (.istore 4, 2) := by decide +kernel
theorem dX10_drifts_77 : decode cX10_drifts 77 = .ok (.aload_n 0, 1) := by decide +kernel
theorem dX10_drifts_78 : decode cX10_drifts 78 = .ok (.getfield 29, 3) := by decide +kernel
theorem dX10_drifts_81 : decode cX10_drifts 81 = .ok (.iload_n 2, 1) := by decide +kernel
theorem dX10_drifts_82 : decode cX10_drifts 82 = .ok (.dup2, 1) := by decide +kernel
theorem dX10_drifts_83 : decode cX10_drifts 83 = .ok (.iaload, 1) := by decide +kernel
theorem dX10_drifts_84 : decode cX10_drifts 84 = .ok (.aload_n 0, 1) := by decide +kernel
theorem dX10_drifts_85 : decode cX10_drifts 85 = .ok (.getfield 23, 3) := by decide +kernel
theorem dX10_drifts_88 : decode cX10_drifts 88 = .ok (.iload_n 2, 1) := by decide +kernel
theorem dX10_drifts_89 : decode cX10_drifts 89 = .ok (.iaload, 1) := by decide +kernel
theorem dX10_drifts_90 : decode cX10_drifts 90 = .ok (.iload_n 3, 1) := by decide +kernel
theorem dX10_drifts_91 : decode cX10_drifts 91 = .ok (.isub, 1) := by decide +kernel
theorem dX10_drifts_92 : decode cX10_drifts 92 = .ok (.iload 4, 2) := by decide +kernel
theorem dX10_drifts_94 : decode cX10_drifts 94 = .ok (.isub, 1) := by decide +kernel
theorem dX10_drifts_95 : decode cX10_drifts 95 = .ok (.iadd, 1) := by decide +kernel
theorem dX10_drifts_96 : decode cX10_drifts 96 = .ok (.iastore, 1) := by decide +kernel
theorem dX10_drifts_97 : decode cX10_drifts 97 = .ok (.iload_n 2, 1) := by decide +kernel
theorem dX10_drifts_98 : decode cX10_drifts 98 = .ok (.aload_n 0, 1) := by decide +kernel
theorem dX10_drifts_99 : decode cX10_drifts 99 = .ok (.getfield 7, 3) := by decide +kernel
theorem dX10_drifts_102 : decode cX10_drifts 102 = .ok (.irem, 1) := by decide +kernel
theorem dX10_drifts_103 : decode cX10_drifts 103 = .ok (.iload_n 1, 1) := by decide +kernel
theorem dX10_drifts_104 : decode cX10_drifts 104 = .ok (.iadd, 1) := by decide +kernel
theorem dX10_drifts_105 : decode cX10_drifts 105 = .ok (.istore 5, 2) := by decide +kernel
theorem dX10_drifts_107 : decode cX10_drifts 107 = .ok (.iload 5, 2) := by decide +kernel
theorem dX10_drifts_109 : decode cX10_drifts 109 = .ok (.iconst 0, 1) := by decide +kernel
theorem dX10_drifts_110 : decode cX10_drifts 110 = .ok (.aload_n 0, 1) := by decide +kernel
theorem dX10_drifts_111 : decode cX10_drifts 111 = .ok (.getfield 7, 3) := by decide +kernel
theorem dX10_drifts_114 : decode cX10_drifts 114 = .ok (.iconst 1, 1) := by decide +kernel
theorem dX10_drifts_115 : decode cX10_drifts 115 = .ok (.isub, 1) := by decide +kernel
theorem dX10_drifts_116 : decode cX10_drifts 116 = .ok (.invokestatic 69, 3) := by decide +kernel
theorem dX10_drifts_119 : decode cX10_drifts 119 = .ok (.ifCond .eq 18, 3) := by decide +kernel
theorem dX10_drifts_122 : decode cX10_drifts 122 = .ok (.aload_n 0, 1) := by decide +kernel
theorem dX10_drifts_123 : decode cX10_drifts 123 = .ok (.getfield 29, 3) := by decide +kernel
theorem dX10_drifts_126 : decode cX10_drifts 126 = .ok (.iload_n 2, 1) := by decide +kernel
theorem dX10_drifts_127 : decode cX10_drifts 127 = .ok (.iload_n 1, 1) := by decide +kernel
theorem dX10_drifts_128 : decode cX10_drifts 128 = .ok (.iadd, 1) := by decide +kernel
theorem dX10_drifts_129 : decode cX10_drifts 129 = .ok (.dup2, 1) := by decide +kernel
theorem dX10_drifts_130 : decode cX10_drifts 130 = .ok (.iaload, 1) := by decide +kernel
theorem dX10_drifts_131 : decode cX10_drifts 131 = .ok (.iload_n 3, 1) := by decide +kernel
theorem dX10_drifts_132 : decode cX10_drifts 132 = .ok (.iadd, 1) := by decide +kernel
theorem dX10_drifts_133 : decode cX10_drifts 133 = .ok (.iastore, 1) := by decide +kernel
theorem dX10_drifts_134 : decode cX10_drifts 134 = .ok (.goto 13, 3) := by decide +kernel
theorem dX10_drifts_137 : decode cX10_drifts 137 = .ok (.aload_n 0, 1) := by decide +kernel
theorem dX10_drifts_138 : decode cX10_drifts 138 = .ok (.dup, 1) := by decide +kernel
theorem dX10_drifts_139 : decode cX10_drifts 139 = .ok (.getfield 88, 3) := by decide +kernel
theorem dX10_drifts_142 : decode cX10_drifts 142 = .ok (.iload_n 3, 1) := by decide +kernel
theorem dX10_drifts_143 : decode cX10_drifts 143 = .ok (.iadd, 1) := by decide +kernel
theorem dX10_drifts_144 : decode cX10_drifts 144 = .ok (.putfield 88, 3) := by decide +kernel
theorem dX10_drifts_147 : decode cX10_drifts 147 = .ok (.aload_n 0, 1) := by decide +kernel
theorem dX10_drifts_148 : decode cX10_drifts 148 = .ok (.dup, 1) := by decide +kernel
theorem dX10_drifts_149 : decode cX10_drifts 149 = .ok (.getfield 91, 3) := by decide +kernel
theorem dX10_drifts_152 : decode cX10_drifts 152 = .ok (.iload 4, 2) := by decide +kernel
theorem dX10_drifts_154 : decode cX10_drifts 154 = .ok (.iadd, 1) := by decide +kernel
theorem dX10_drifts_155 : decode cX10_drifts 155 = .ok (.putfield 91, 3) := by decide +kernel
theorem dX10_drifts_158 : decode cX10_drifts 158 = .ok (.aload_n 0, 1) := by decide +kernel
theorem dX10_drifts_159 : decode cX10_drifts 159 = .ok (.getfield 26, 3) := by decide +kernel
theorem dX10_drifts_162 : decode cX10_drifts 162 = .ok (.iload_n 2, 1) := by decide +kernel
theorem dX10_drifts_163 : decode cX10_drifts 163 = .ok (.iaload, 1) := by decide +kernel
theorem dX10_drifts_164 : decode cX10_drifts 164 = .ok (.iload 4, 2) := by decide +kernel
theorem dX10_drifts_166 : decode cX10_drifts 166 = .ok (.iadd, 1) := by decide +kernel
theorem dX10_drifts_167 : decode cX10_drifts 167 = .ok (.istore 6, 2) := by decide +kernel
theorem dX10_drifts_169 : decode cX10_drifts 169 = .ok (.aload_n 0, 1) := by decide +kernel
theorem dX10_drifts_170 : decode cX10_drifts 170 = .ok (.getfield 26, 3) := by decide +kernel
theorem dX10_drifts_173 : decode cX10_drifts 173 = .ok (.iload_n 2, 1) := by decide +kernel
theorem dX10_drifts_174 : decode cX10_drifts 174 = .ok (.iload 6, 2) := by decide +kernel
theorem dX10_drifts_176 : decode cX10_drifts 176 = .ok (.iconst 4, 1) := by decide +kernel
theorem dX10_drifts_177 : decode cX10_drifts 177 = .ok (.irem, 1) := by decide +kernel
theorem dX10_drifts_178 : decode cX10_drifts 178 = .ok (.iastore, 1) := by decide +kernel
theorem dX10_drifts_179 : decode cX10_drifts 179 = .ok (.aload_n 0, 1) := by decide +kernel
theorem dX10_drifts_180 : decode cX10_drifts 180 = .ok (.getfield 16, 3) := by decide +kernel
theorem dX10_drifts_183 : decode cX10_drifts 183 = .ok (.iload_n 2, 1) := by decide +kernel
theorem dX10_drifts_184 : decode cX10_drifts 184 = .ok (.dup2, 1) := by decide +kernel
theorem dX10_drifts_185 : decode cX10_drifts 185 = .ok (.iaload, 1) := by decide +kernel
theorem dX10_drifts_186 : decode cX10_drifts 186 = .ok (.iload 6, 2) := by decide +kernel
theorem dX10_drifts_188 : decode cX10_drifts 188 = .ok (.iconst 4, 1) := by decide +kernel
theorem dX10_drifts_189 : decode cX10_drifts 189 = .ok (.idiv, 1) := by decide +kernel
theorem dX10_drifts_190 : decode cX10_drifts 190 = .ok (.aload_n 0, 1) := by decide +kernel
theorem dX10_drifts_191 : decode cX10_drifts 191 = .ok (.getfield 16, 3) := by decide +kernel
theorem dX10_drifts_194 : decode cX10_drifts 194 = .ok (.iload_n 2, 1) := by decide +kernel
theorem dX10_drifts_195 : decode cX10_drifts 195 = .ok (.iaload, 1) := by decide +kernel
theorem dX10_drifts_196 : decode cX10_drifts 196 = .ok (.if_icmp .ge 10, 3) := by decide +kernel
theorem dX10_drifts_199 : decode cX10_drifts 199 = .ok (.iload 6, 2) := by decide +kernel
theorem dX10_drifts_201 : decode cX10_drifts 201 = .ok (.iconst 4, 1) := by decide +kernel
theorem dX10_drifts_202 : decode cX10_drifts 202 = .ok (.idiv, 1) := by decide +kernel
theorem dX10_drifts_203 : decode cX10_drifts 203 = .ok (.goto 9, 3) := by decide +kernel
theorem dX10_drifts_206 : decode cX10_drifts 206 = .ok (.aload_n 0, 1) := by decide +kernel
theorem dX10_drifts_207 : decode cX10_drifts 207 = .ok (.getfield 16, 3) := by decide +kernel
theorem dX10_drifts_210 : decode cX10_drifts 210 = .ok (.iload_n 2, 1) := by decide +kernel
theorem dX10_drifts_211 : decode cX10_drifts 211 = .ok (.iaload, 1) := by decide +kernel
theorem dX10_drifts_212 : decode cX10_drifts 212 = .ok (.isub, 1) := by decide +kernel
theorem dX10_drifts_213 : decode cX10_drifts 213 = .ok (.iastore, 1) := by decide +kernel
theorem dX10_drifts_214 : decode cX10_drifts 214 = .ok (.iinc 2 1, 3) := by decide +kernel
theorem dX10_drifts_217 : decode cX10_drifts 217 = .ok (.goto (-180), 3) := by decide +kernel
theorem dX10_drifts_220 : decode cX10_drifts 220 = .ok (.iconst 0, 1) := by decide +kernel
theorem dX10_drifts_221 : decode cX10_drifts 221 = .ok (.istore_n 2, 1) := by decide +kernel
theorem dX10_drifts_222 : decode cX10_drifts 222 = .ok (.iload_n 2, 1) := by decide +kernel
theorem dX10_drifts_223 : decode cX10_drifts 223 = .ok (.aload_n 0, 1) := by decide +kernel
theorem dX10_drifts_224 : decode cX10_drifts 224 = .ok (.getfield 7, 3) := by decide +kernel
theorem dX10_drifts_227 : decode cX10_drifts 227 = .ok (.aload_n 0, 1) := by decide +kernel
theorem dX10_drifts_228 : decode cX10_drifts 228 = .ok (.getfield 13, 3) := by decide +kernel
theorem dX10_drifts_231 : decode cX10_drifts 231 = .ok (.imul, 1) := by decide +kernel
theorem dX10_drifts_232 : decode cX10_drifts 232 = .ok (.if_icmp .ge 21, 3) := by decide +kernel
theorem dX10_drifts_235 : decode cX10_drifts 235 = .ok (.aload_n 0, 1) := by decide +kernel
theorem dX10_drifts_236 : decode cX10_drifts 236 = .ok (.getfield 23, 3) := by decide +kernel
theorem dX10_drifts_239 : decode cX10_drifts 239 = .ok (.iload_n 2, 1) := by decide +kernel
theorem dX10_drifts_240 : decode cX10_drifts 240 = .ok (.aload_n 0, 1) := by decide +kernel
theorem dX10_drifts_241 : decode cX10_drifts 241 = .ok (.getfield 29, 3) := by decide +kernel
theorem dX10_drifts_244 : decode cX10_drifts 244 = .ok (.iload_n 2, 1) := by decide +kernel
theorem dX10_drifts_245 : decode cX10_drifts 245 = .ok (.iaload, 1) := by decide +kernel
theorem dX10_drifts_246 : decode cX10_drifts 246 = .ok (.iastore, 1) := by decide +kernel
theorem dX10_drifts_247 : decode cX10_drifts 247 = .ok (.iinc 2 1, 3) := by decide +kernel
theorem dX10_drifts_250 : decode cX10_drifts 250 = .ok (.goto (-28), 3) := by decide +kernel
theorem dX10_drifts_253 : decode cX10_drifts 253 = .ok (.iconst 0, 1) := by decide +kernel
theorem dX10_drifts_254 : decode cX10_drifts 254 = .ok (.istore_n 2, 1) := by decide +kernel
theorem dX10_drifts_255 : decode cX10_drifts 255 = .ok (.iload_n 2, 1) := by decide +kernel
theorem dX10_drifts_256 : decode cX10_drifts 256 = .ok (.aload_n 0, 1) := by decide +kernel
theorem dX10_drifts_257 : decode cX10_drifts 257 = .ok (.getfield 73, 3) := by decide +kernel
theorem dX10_drifts_260 : decode cX10_drifts 260 = .ok (.if_icmp .ge 43, 3) := by decide +kernel
theorem dX10_drifts_263 : decode cX10_drifts 263 = .ok (.aload_n 0, 1) := by decide +kernel
theorem dX10_drifts_264 : decode cX10_drifts 264 = .ok (.getfield 56, 3) := by decide +kernel
theorem dX10_drifts_267 : decode cX10_drifts 267 = .ok (.iload_n 2, 1) := by decide +kernel
theorem dX10_drifts_268 : decode cX10_drifts 268 = .ok (.dup2, 1) := by decide +kernel
theorem dX10_drifts_269 : decode cX10_drifts 269 = .ok (.iaload, 1) := by decide +kernel
theorem dX10_drifts_270 : decode cX10_drifts 270 = .ok (.aload_n 0, 1) := by decide +kernel
theorem dX10_drifts_271 : decode cX10_drifts 271 = .ok (.getfield 23, 3) := by decide +kernel
theorem dX10_drifts_274 : decode cX10_drifts 274 = .ok (.aload_n 0, 1) := by decide +kernel
theorem dX10_drifts_275 : decode cX10_drifts 275 = .ok (.getfield 50, 3) := by decide +kernel
theorem dX10_drifts_278 : decode cX10_drifts 278 = .ok (.iload_n 2, 1) := by decide +kernel
theorem dX10_drifts_279 : decode cX10_drifts 279 = .ok (.iaload, 1) := by decide +kernel
theorem dX10_drifts_280 : decode cX10_drifts 280 = .ok (.iaload, 1) := by decide +kernel
theorem dX10_drifts_281 : decode cX10_drifts 281 = .ok (.aload_n 0, 1) := by decide +kernel
theorem dX10_drifts_282 : decode cX10_drifts 282 = .ok (.getfield 53, 3) := by decide +kernel
theorem dX10_drifts_285 : decode cX10_drifts 285 = .ok (.iload_n 2, 1) := by decide +kernel
theorem dX10_drifts_286 : decode cX10_drifts 286 = .ok (.iaload, 1) := by decide +kernel
theorem dX10_drifts_287 : decode cX10_drifts 287 = .ok (.if_icmp .le 7, 3) := by decide +kernel
theorem dX10_drifts_290 : decode cX10_drifts 290 = .ok (.iconst 1, 1) := by decide +kernel
theorem dX10_drifts_291 : decode cX10_drifts 291 = .ok (.goto 4, 3) := by decide +kernel
theorem dX10_drifts_294 : decode cX10_drifts 294 = .ok (.iconst 0, 1) := by decide +kernel
theorem dX10_drifts_295 : decode cX10_drifts 295 = .ok (.iadd, 1) := by decide +kernel
theorem dX10_drifts_296 : decode cX10_drifts 296 = .ok (.iastore, 1) := by decide +kernel
theorem dX10_drifts_297 : decode cX10_drifts 297 = .ok (.iinc 2 1, 3) := by decide +kernel
theorem dX10_drifts_300 : decode cX10_drifts 300 = .ok (.goto (-45), 3) := by decide +kernel
theorem dX10_drifts_303 : decode cX10_drifts 303 = .ok (.return_, 1) := by decide +kernel
theorem dX10_mean_0 : decode cX10_mean 0 = .ok (.iload_n 1, 1) := by decide +kernel
theorem dX10_mean_1 : decode cX10_mean 1 = .ok (.aload_n 0, 1) := by decide +kernel
theorem dX10_mean_2 : decode cX10_mean 2 = .ok (.getfield 7, 3) := by decide +kernel
theorem dX10_mean_5 : decode cX10_mean 5 = .ok (.irem, 1) := by decide +kernel
theorem dX10_mean_6 : decode cX10_mean 6 = .ok (.istore_n 2, 1) := by decide +kernel
theorem dX10_mean_7 : decode cX10_mean 7 = .ok (.iload_n 1, 1) := by decide +kernel
theorem dX10_mean_8 : decode cX10_mean 8 = .ok (.aload_n 0, 1) := by decide +kernel
theorem dX10_mean_9 : decode cX10_mean 9 = .ok (.getfield 7, 3) := by decide +kernel
theorem dX10_mean_12 : decode cX10_mean 12 = .ok (.idiv, 1) := by decide +kernel
theorem dX10_mean_13 : decode cX10_mean 13 = .ok (.istore_n 3, 1) := by decide +kernel
theorem dX10_mean_14 : decode cX10_mean 14 = .ok (.iconst 0, 1) := by decide +kernel
theorem dX10_mean_15 : decode cX10_mean 15 = .ok (.istore 4, 2) := by decide +kernel
theorem dX10_mean_17 : decode cX10_mean 17 = .ok (.iconst 0, 1) := by decide +kernel
theorem dX10_mean_18 : decode cX10_mean 18 = .ok (.istore 5, 2) := by decide +kernel
theorem dX10_mean_20 : decode cX10_mean 20 = .ok (.iload_n 2, 1) := by decide +kernel
theorem dX10_mean_21 : decode cX10_mean 21 = .ok (.ifCond .le 19, 3) := by decide +kernel
theorem dX10_mean_24 : decode cX10_mean 24 = .ok (.iinc 4 1, 3) := by decide +kernel
theorem dX10_mean_27 : decode cX10_mean 27 = .ok (.iload 5, 2) := by decide +kernel
theorem dX10_mean_29 : decode cX10_mean 29 = .ok (.aload_n 0, 1) := by decide +kernel
theorem dX10_mean_30 : decode cX10_mean 30 = .ok (.getfield 16, 3) := by decide +kernel
theorem dX10_mean_33 : decode cX10_mean 33 = .ok (.iload_n 1, 1) := by decide +kernel
theorem dX10_mean_34 : decode cX10_mean 34 = .ok (.iconst 1, 1) := by decide +kernel
theorem dX10_mean_35 : decode cX10_mean 35 = .ok (.isub, 1) := by decide +kernel
theorem dX10_mean_36 : decode cX10_mean 36 = .ok (.iaload, 1) := by decide +kernel
theorem dX10_mean_37 : decode cX10_mean 37 = .ok (.iadd, 1) := by decide +kernel
theorem dX10_mean_38 : decode cX10_mean 38 = .ok (.istore 5, 2) := by decide +kernel
theorem dX10_mean_40 : decode cX10_mean 40 = .ok (.iload_n 2, 1) := by decide +kernel
theorem dX10_mean_41 : decode cX10_mean 41 = .ok (.aload_n 0, 1) := by decide +kernel
theorem dX10_mean_42 : decode cX10_mean 42 = .ok (.getfield 7, 3) := by decide +kernel
theorem dX10_mean_45 : decode cX10_mean 45 = .ok (.iconst 1, 1) := by decide +kernel
theorem dX10_mean_46 : decode cX10_mean 46 = .ok (.isub, 1) := by decide +kernel
theorem dX10_mean_47 : decode cX10_mean 47 = .ok (.if_icmp .ge 19, 3) := by decide +kernel
theorem dX10_mean_50 : decode cX10_mean 50 = .ok (.iinc 4 1, 3) := by decide +kernel
theorem dX10_mean_53 : decode cX10_mean 53 = .ok (.iload 5, 2) := by decide +kernel
theorem dX10_mean_55 : decode cX10_mean 55 = .ok (.aload_n 0, 1) := by decide +kernel
theorem dX10_mean_56 : decode cX10_mean 56 = .ok (.getfield 16, 3) := by decide +kernel
theorem dX10_mean_59 : decode cX10_mean 59 = .ok (.iload_n 1, 1) := by decide +kernel
theorem dX10_mean_60 : decode cX10_mean 60 = .ok (.iconst 1, 1) := by decide +kernel
theorem dX10_mean_61 : decode cX10_mean 61 = .ok (.iadd, 1) := by decide +kernel
theorem dX10_mean_62 : decode cX10_mean 62 = .ok (.iaload, 1) := by decide +kernel
theorem dX10_mean_63 : decode cX10_mean 63 = .ok (.iadd, 1) := by decide +kernel
theorem dX10_mean_64 : decode cX10_mean 64 = .ok (.istore 5, 2) := by decide +kernel
theorem dX10_mean_66 : decode cX10_mean 66 = .ok (.iload_n 3, 1) := by decide +kernel
theorem dX10_mean_67 : decode cX10_mean 67 = .ok (.ifCond .le 22, 3) := by decide +kernel
theorem dX10_mean_70 : decode cX10_mean 70 = .ok (.iinc 4 1, 3) := by decide +kernel
theorem dX10_mean_73 : decode cX10_mean 73 = .ok (.iload 5, 2) := by decide +kernel
theorem dX10_mean_75 : decode cX10_mean 75 = .ok (.aload_n 0, 1) := by decide +kernel
theorem dX10_mean_76 : decode cX10_mean 76 = .ok (.getfield 16, 3) := by decide +kernel
theorem dX10_mean_79 : decode cX10_mean 79 = .ok (.iload_n 1, 1) := by decide +kernel
theorem dX10_mean_80 : decode cX10_mean 80 = .ok (.aload_n 0, 1) := by decide +kernel
theorem dX10_mean_81 : decode cX10_mean 81 = .ok (.getfield 7, 3) := by decide +kernel
theorem dX10_mean_84 : decode cX10_mean 84 = .ok (.isub, 1) := by decide +kernel
theorem dX10_mean_85 : decode cX10_mean 85 = .ok (.iaload, 1) := by decide +kernel
theorem dX10_mean_86 : decode cX10_mean 86 = .ok (.iadd, 1) := by decide +kernel
theorem dX10_mean_87 : decode cX10_mean 87 = .ok (.istore 5, 2) := by decide +kernel
theorem dX10_mean_89 : decode cX10_mean 89 = .ok (.iload_n 3, 1) := by decide +kernel
theorem dX10_mean_90 : decode cX10_mean 90 = .ok (.aload_n 0, 1) := by decide +kernel
theorem dX10_mean_91 : decode cX10_mean 91 = .ok (.getfield 13, 3) := by decide +kernel
theorem dX10_mean_94 : decode cX10_mean 94 = .ok (.iconst 1, 1) := by decide +kernel
theorem dX10_mean_95 : decode cX10_mean 95 = .ok (.isub, 1) := by decide +kernel
theorem dX10_mean_96 : decode cX10_mean 96 = .ok (.if_icmp .ge 22, 3) := by decide +kernel
theorem dX10_mean_99 : decode cX10_mean 99 = .ok (.iinc 4 1, 3) := by decide +kernel
theorem dX10_mean_102 : decode cX10_mean 102 = .ok (.iload 5, 2) := by decide +kernel
theorem dX10_mean_104 : decode cX10_mean 104 = .ok (.aload_n 0, 1) := by decide +kernel
theorem dX10_mean_105 : decode cX10_mean 105 = .ok (.getfield 16, 3) := by decide +kernel
theorem dX10_mean_108 : decode cX10_mean 108 = .ok (.iload_n 1, 1) := by decide +kernel
theorem dX10_mean_109 : decode cX10_mean 109 = .ok (.aload_n 0, 1) := by decide +kernel
theorem dX10_mean_110 : decode cX10_mean 110 = .ok (.getfield 7, 3) := by decide +kernel
theorem dX10_mean_113 : decode cX10_mean 113 = .ok (.iadd, 1) := by decide +kernel
theorem dX10_mean_114 : decode cX10_mean 114 = .ok (.iaload, 1) := by decide +kernel
theorem dX10_mean_115 : decode cX10_mean 115 = .ok (.iadd, 1) := by decide +kernel
theorem dX10_mean_116 : decode cX10_mean 116 = .ok (.istore 5, 2) := by decide +kernel
theorem dX10_mean_118 : decode cX10_mean 118 = .ok (.iload 4, 2) := by decide +kernel
theorem dX10_mean_120 : decode cX10_mean 120 = .ok (.ifCond .ne 7, 3) := by decide +kernel
theorem dX10_mean_123 : decode cX10_mean 123 = .ok (.iconst (-1), 1) := by decide +kernel
theorem dX10_mean_124 : decode cX10_mean 124 = .ok (.goto 8, 3) := by decide +kernel
theorem dX10_mean_127 : decode cX10_mean 127 = .ok (.iload 5, 2) := by decide +kernel
theorem dX10_mean_129 : decode cX10_mean 129 = .ok (.iload 4, 2) := by decide +kernel
theorem dX10_mean_131 : decode cX10_mean 131 = .ok (.idiv, 1) := by decide +kernel
theorem dX10_mean_132 : decode cX10_mean 132 = .ok (.ireturn, 1) := by decide +kernel
theorem dX10_silts_0 : decode cX10_silts 0 = .ok (.iconst 0, 1) := by decide +kernel
theorem dX10_silts_1 : decode cX10_silts 1 = .ok (.istore_n 1, 1) := by decide +kernel
theorem dX10_silts_2 : decode cX10_silts 2 = .ok (.iload_n 1, 1) := by decide +kernel
theorem dX10_silts_3 : decode cX10_silts 3 = .ok (.aload_n 0, 1) := by decide +kernel
theorem dX10_silts_4 : decode cX10_silts 4 = .ok (.getfield 7, 3) := by decide +kernel
theorem dX10_silts_7 : decode cX10_silts 7 = .ok (.aload_n 0, 1) := by decide +kernel
theorem dX10_silts_8 : decode cX10_silts 8 = .ok (.getfield 13, 3) := by decide +kernel
theorem dX10_silts_11 : decode cX10_silts 11 = .ok (.imul, 1) := by decide +kernel
theorem dX10_silts_12 : decode cX10_silts 12 = .ok (.if_icmp .ge 49, 3) := by decide +kernel
theorem dX10_silts_15 : decode cX10_silts 15 = .ok (.aload_n 0, 1) := by decide +kernel
theorem dX10_silts_16 : decode cX10_silts 16 = .ok (.iload_n 1, 1) := by decide +kernel
theorem dX10_silts_17 : decode cX10_silts 17 = .ok (.invokevirtual 105, 3) := by decide +kernel
theorem dX10_silts_20 : decode cX10_silts 20 = .ok (.istore_n 2, 1) := by decide +kernel
theorem dX10_silts_21 : decode cX10_silts 21 = .ok (.aload_n 0, 1) := by decide +kernel
theorem dX10_silts_22 : decode cX10_silts 22 = .ok (.getfield 29, 3) := by decide +kernel
theorem dX10_silts_25 : decode cX10_silts 25 = .ok (.iload_n 1, 1) := by decide +kernel
theorem dX10_silts_26 : decode cX10_silts 26 = .ok (.aload_n 0, 1) := by decide +kernel
theorem dX10_silts_27 : decode cX10_silts 27 = .ok (.getfield 20, 3) := by decide +kernel
theorem dX10_silts_30 : decode cX10_silts 30 = .ok (.iload_n 1, 1) := by decide +kernel
theorem dX10_silts_31 : decode cX10_silts 31 = .ok (.iaload, 1) := by decide +kernel
theorem dX10_silts_32 : decode cX10_silts 32 = .ok (.ifCond .le 21, 3) := by decide +kernel
theorem dX10_silts_35 : decode cX10_silts 35 = .ok (.iload_n 2, 1) := by decide +kernel
theorem dX10_silts_36 : decode cX10_silts 36 = .ok (.ifCond .lt 17, 3) := by decide +kernel
theorem dX10_silts_39 : decode cX10_silts 39 = .ok (.aload_n 0, 1) := by decide +kernel
theorem dX10_silts_40 : decode cX10_silts 40 = .ok (.getfield 16, 3) := by decide +kernel
theorem dX10_silts_43 : decode cX10_silts 43 = .ok (.iload_n 1, 1) := by decide +kernel
theorem dX10_silts_44 : decode cX10_silts 44 = .ok (.iaload, 1) := by decide +kernel
theorem dX10_silts_45 : decode cX10_silts 45 = .ok (.iload_n 2, 1) := by decide +kernel
theorem dX10_silts_46 : decode cX10_silts 46 = .ok (.if_icmp .le 7, 3) := by decide +kernel
theorem dX10_silts_49 : decode cX10_silts 49 = .ok (.iconst 1, 1) := by decide +kernel
theorem dX10_silts_50 : decode cX10_silts 50 = .ok (.goto 4, 3) := by decide +kernel
theorem dX10_silts_53 : decode cX10_silts 53 = .ok (.iconst 0, 1) := by decide +kernel
theorem dX10_silts_54 : decode cX10_silts 54 = .ok (.iastore, 1) := by decide +kernel
theorem dX10_silts_55 : decode cX10_silts 55 = .ok (.iinc 1 1, 3) := by decide +kernel
theorem dX10_silts_58 : decode cX10_silts 58 = .ok (.goto (-56), 3) := by decide +kernel
theorem dX10_silts_61 : decode cX10_silts 61 = .ok (.iconst 0, 1) := by decide +kernel
theorem dX10_silts_62 : decode cX10_silts 62 = .ok (.istore_n 1, 1) := by decide +kernel
theorem dX10_silts_63 : decode cX10_silts 63 = .ok (.iload_n 1, 1) := by decide +kernel
theorem dX10_silts_64 : decode cX10_silts 64 = .ok (.aload_n 0, 1) := by decide +kernel
theorem dX10_silts_65 : decode cX10_silts 65 = .ok (.getfield 7, 3) := by decide +kernel
theorem dX10_silts_68 : decode cX10_silts 68 = .ok (.aload_n 0, 1) := by decide +kernel
theorem dX10_silts_69 : decode cX10_silts 69 = .ok (.getfield 13, 3) := by decide +kernel
theorem dX10_silts_72 : decode cX10_silts 72 = .ok (.imul, 1) := by decide +kernel
theorem dX10_silts_73 : decode cX10_silts 73 = .ok (.if_icmp .ge 39, 3) := by decide +kernel
theorem dX10_silts_76 : decode cX10_silts 76 = .ok (.aload_n 0, 1) := by decide +kernel
theorem dX10_silts_77 : decode cX10_silts 77 = .ok (.getfield 16, 3) := by decide +kernel
theorem dX10_silts_80 : decode cX10_silts 80 = .ok (.iload_n 1, 1) := by decide +kernel
theorem dX10_silts_81 : decode cX10_silts 81 = .ok (.dup2, 1) := by decide +kernel
theorem dX10_silts_82 : decode cX10_silts 82 = .ok (.iaload, 1) := by decide +kernel
theorem dX10_silts_83 : decode cX10_silts 83 = .ok (.aload_n 0, 1) := by decide +kernel
theorem dX10_silts_84 : decode cX10_silts 84 = .ok (.getfield 29, 3) := by decide +kernel
theorem dX10_silts_87 : decode cX10_silts 87 = .ok (.iload_n 1, 1) := by decide +kernel
theorem dX10_silts_88 : decode cX10_silts 88 = .ok (.iaload, 1) := by decide +kernel
theorem dX10_silts_89 : decode cX10_silts 89 = .ok (.isub, 1) := by decide +kernel
theorem dX10_silts_90 : decode cX10_silts 90 = .ok (.iastore, 1) := by decide +kernel
theorem dX10_silts_91 : decode cX10_silts 91 = .ok (.aload_n 0, 1) := by decide +kernel
theorem dX10_silts_92 : decode cX10_silts 92 = .ok (.dup, 1) := by decide +kernel
theorem dX10_silts_93 : decode cX10_silts 93 = .ok (.getfield 94, 3) := by decide +kernel
theorem dX10_silts_96 : decode cX10_silts 96 = .ok (.aload_n 0, 1) := by decide +kernel
theorem dX10_silts_97 : decode cX10_silts 97 = .ok (.getfield 29, 3) := by decide +kernel
theorem dX10_silts_100 : decode cX10_silts 100 = .ok (.iload_n 1, 1) := by decide +kernel
theorem dX10_silts_101 : decode cX10_silts 101 = .ok (.iaload, 1) := by decide +kernel
theorem dX10_silts_102 : decode cX10_silts 102 = .ok (.iadd, 1) := by decide +kernel
theorem dX10_silts_103 : decode cX10_silts 103 = .ok (.putfield 94, 3) := by decide +kernel
theorem dX10_silts_106 : decode cX10_silts 106 = .ok (.iinc 1 1, 3) := by decide +kernel
theorem dX10_silts_109 : decode cX10_silts 109 = .ok (.goto (-46), 3) := by decide +kernel
theorem dX10_silts_112 : decode cX10_silts 112 = .ok (.return_, 1) := by decide +kernel
theorem dX10_passes_0 : decode cX10_passes 0 = .ok (.aload_n 0, 1) := by decide +kernel
theorem dX10_passes_1 : decode cX10_passes 1 = .ok (.invokevirtual 109, 3) := by decide +kernel
theorem dX10_passes_4 : decode cX10_passes 4 = .ok (.aload_n 0, 1) := by decide +kernel
theorem dX10_passes_5 : decode cX10_passes 5 = .ok (.dup, 1) := by decide +kernel
theorem dX10_passes_6 : decode cX10_passes 6 = .ok (.getfield 76, 3) := by decide +kernel
theorem dX10_passes_9 : decode cX10_passes 9 = .ok (.iconst 1, 1) := by decide +kernel
theorem dX10_passes_10 : decode cX10_passes 10 = .ok (.iadd, 1) := by decide +kernel
theorem dX10_passes_11 : decode cX10_passes 11 = .ok (.putfield 76, 3) := by decide +kernel
theorem dX10_passes_14 : decode cX10_passes 14 = .ok (.aload_n 0, 1) := by decide +kernel
theorem dX10_passes_15 : decode cX10_passes 15 = .ok (.getfield 76, 3) := by decide +kernel
theorem dX10_passes_18 : decode cX10_passes 18 = .ok (.bipush 24, 2) := by decide +kernel
theorem dX10_passes_20 : decode cX10_passes 20 = .ok (.irem, 1) := by decide +kernel
theorem dX10_passes_21 : decode cX10_passes 21 = .ok (.ifCond .ne 7, 3) := by decide +kernel
theorem dX10_passes_24 : decode cX10_passes 24 = .ok (.aload_n 0, 1) := by decide +kernel
theorem dX10_passes_25 : decode cX10_passes 25 = .ok (.invokevirtual 112, 3) := by decide +kernel
theorem dX10_passes_28 : decode cX10_passes 28 = .ok (.return_, 1) := by decide +kernel
theorem dX10_hours_0 : decode cX10_hours 0 = .ok (.iload_n 1, 1) := by decide +kernel
theorem dX10_hours_1 : decode cX10_hours 1 = .ok (.iconst 1, 1) := by decide +kernel
theorem dX10_hours_2 : decode cX10_hours 2 = .ok (.sipush 200, 3) := by decide +kernel
theorem dX10_hours_5 : decode cX10_hours 5 = .ok (.invokestatic 69, 3) := by decide +kernel
theorem dX10_hours_8 : decode cX10_hours 8 = .ok (.ifCond .ne 5, 3) := by decide +kernel
theorem dX10_hours_11 : decode cX10_hours 11 = .ok (.iconst (-1), 1) := by decide +kernel
theorem dX10_hours_12 : decode cX10_hours 12 = .ok (.ireturn, 1) := by decide +kernel
theorem dX10_hours_13 : decode cX10_hours 13 = .ok (.aload_n 0, 1) := by decide +kernel
theorem dX10_hours_14 : decode cX10_hours 14 = .ok (.getfield 76, 3) := by decide +kernel
theorem dX10_hours_17 : decode cX10_hours 17 = .ok (.iload_n 1, 1) := by decide +kernel
theorem dX10_hours_18 : decode cX10_hours 18 = .ok (.iadd, 1) := by decide +kernel
theorem dX10_hours_19 : decode cX10_hours 19 = .ok (.sipush 5000, 3) := by decide +kernel
theorem dX10_hours_22 : decode cX10_hours 22 = .ok (.if_icmp .le 6, 3) := by decide +kernel
theorem dX10_hours_25 : decode cX10_hours 25 = .ok (.bipush (-3), 2) := by decide +kernel
theorem dX10_hours_27 : decode cX10_hours 27 = .ok (.ireturn, 1) := by decide +kernel
theorem dX10_hours_28 : decode cX10_hours 28 = .ok (.iconst 0, 1) := by decide +kernel
theorem dX10_hours_29 : decode cX10_hours 29 = .ok (.istore_n 2, 1) := by decide +kernel
theorem dX10_hours_30 : decode cX10_hours 30 = .ok (.iload_n 2, 1) := by decide +kernel
theorem dX10_hours_31 : decode cX10_hours 31 = .ok (.iload_n 1, 1) := by decide +kernel
theorem dX10_hours_32 : decode cX10_hours 32 = .ok (.if_icmp .ge 13, 3) := by decide +kernel
theorem dX10_hours_35 : decode cX10_hours 35 = .ok (.aload_n 0, 1) := by decide +kernel
theorem dX10_hours_36 : decode cX10_hours 36 = .ok (.invokevirtual 115, 3) := by decide +kernel
theorem dX10_hours_39 : decode cX10_hours 39 = .ok (.iinc 2 1, 3) := by decide +kernel
theorem dX10_hours_42 : decode cX10_hours 42 = .ok (.goto (-12), 3) := by decide +kernel
theorem dX10_hours_45 : decode cX10_hours 45 = .ok (.aload_n 0, 1) := by decide +kernel
theorem dX10_hours_46 : decode cX10_hours 46 = .ok (.getfield 76, 3) := by decide +kernel
theorem dX10_hours_49 : decode cX10_hours 49 = .ok (.ireturn, 1) := by decide +kernel
theorem dX10_digs_0 : decode cX10_digs 0 = .ok (.iconst 0, 1) := by decide +kernel
theorem dX10_digs_1 : decode cX10_digs 1 = .ok (.istore 5, 2) := by decide +kernel
theorem dX10_digs_3 : decode cX10_digs 3 = .ok (.iload 5, 2) := by decide +kernel
theorem dX10_digs_5 : decode cX10_digs 5 = .ok (.aload_n 0, 1) := by decide +kernel
theorem dX10_digs_6 : decode cX10_digs 6 = .ok (.getfield 7, 3) := by decide +kernel
theorem dX10_digs_9 : decode cX10_digs 9 = .ok (.aload_n 0, 1) := by decide +kernel
theorem dX10_digs_10 : decode cX10_digs 10 = .ok (.getfield 13, 3) := by decide +kernel
theorem dX10_digs_13 : decode cX10_digs 13 = .ok (.imul, 1) := by decide +kernel
theorem dX10_digs_14 : decode cX10_digs 14 = .ok (.if_icmp .ge 17, 3) := by decide +kernel
theorem dX10_digs_17 : decode cX10_digs 17 = .ok (.aload_n 0, 1) := by decide +kernel
theorem dX10_digs_18 : decode cX10_digs 18 = .ok (.getfield 29, 3) := by decide +kernel
theorem dX10_digs_21 : decode cX10_digs 21 = .ok (.iload 5, 2) := by decide +kernel
theorem dX10_digs_23 : decode cX10_digs 23 = .ok (.iconst 0, 1) := by decide +kernel
theorem dX10_digs_24 : decode cX10_digs 24 = .ok (.iastore, 1) := by decide +kernel
theorem dX10_digs_25 : decode cX10_digs 25 = .ok (.iinc 5 1, 3) := by decide +kernel
theorem dX10_digs_28 : decode cX10_digs 28 = .ok (.goto (-25), 3) := by decide +kernel
theorem dX10_digs_31 : decode cX10_digs 31 = .ok (.aload_n 0, 1) := by decide +kernel
theorem dX10_digs_32 : decode cX10_digs 32 = .ok (.iload_n 1, 1) := by decide +kernel
theorem dX10_digs_33 : decode cX10_digs 33 = .ok (.aload_n 0, 1) := by decide +kernel
theorem dX10_digs_34 : decode cX10_digs 34 = .ok (.getfield 7, 3) := by decide +kernel
theorem dX10_digs_37 : decode cX10_digs 37 = .ok (.imul, 1) := by decide +kernel
theorem dX10_digs_38 : decode cX10_digs 38 = .ok (.iload_n 2, 1) := by decide +kernel
theorem dX10_digs_39 : decode cX10_digs 39 = .ok (.iadd, 1) := by decide +kernel
theorem dX10_digs_40 : decode cX10_digs 40 = .ok (.putfield 118, 3) := by decide +kernel
theorem dX10_digs_43 : decode cX10_digs 43 = .ok (.iconst 0, 1) := by decide +kernel
theorem dX10_digs_44 : decode cX10_digs 44 = .ok (.istore 5, 2) := by decide +kernel
theorem dX10_digs_46 : decode cX10_digs 46 = .ok (.iload_n 2, 1) := by decide +kernel
theorem dX10_digs_47 : decode cX10_digs 47 = .ok (.iload_n 3, 1) := by decide +kernel
theorem dX10_digs_48 : decode cX10_digs 48 = .ok (.if_icmp .gt 7, 3) := by decide +kernel
theorem dX10_digs_51 : decode cX10_digs 51 = .ok (.iconst 1, 1) := by decide +kernel
theorem dX10_digs_52 : decode cX10_digs 52 = .ok (.goto 4, 3) := by decide +kernel
theorem dX10_digs_55 : decode cX10_digs 55 = .ok (.iconst (-1), 1) := by decide +kernel
theorem dX10_digs_56 : decode cX10_digs 56 = .ok (.istore 6, 2) := by decide +kernel
theorem dX10_digs_58 : decode cX10_digs 58 = .ok (.iload 5, 2) := by decide +kernel
theorem dX10_digs_60 : decode cX10_digs 60 = .ok (.iload 4, 2) := by decide +kernel
theorem dX10_digs_62 : decode cX10_digs 62 = .ok (.if_icmp .ge 7, 3) := by decide +kernel
theorem dX10_digs_65 : decode cX10_digs 65 = .ok (.iconst 1, 1) := by decide +kernel
theorem dX10_digs_66 : decode cX10_digs 66 = .ok (.goto 4, 3) := by decide +kernel
theorem dX10_digs_69 : decode cX10_digs 69 = .ok (.iconst 0, 1) := by decide +kernel
theorem dX10_digs_70 : decode cX10_digs 70 = .ok (.istore 7, 2) := by decide +kernel
theorem dX10_digs_72 : decode cX10_digs 72 = .ok (.iload 7, 2) := by decide +kernel
theorem dX10_digs_74 : decode cX10_digs 74 = .ok (.ifCond .eq 135, 3) := by decide +kernel
theorem dX10_digs_77 : decode cX10_digs 77 = .ok (.iload 5, 2) := by decide +kernel
theorem dX10_digs_79 : decode cX10_digs 79 = .ok (.istore 8, 2) := by decide +kernel
theorem dX10_digs_81 : decode cX10_digs 81 = .ok (.iload_n 2, 1) := by decide +kernel
theorem dX10_digs_82 : decode cX10_digs 82 = .ok (.istore 9, 2) := by decide +kernel
theorem dX10_digs_84 : decode cX10_digs 84 = .ok (.iload 9, 2) := by decide +kernel
theorem dX10_digs_86 : decode cX10_digs 86 = .ok (.iload_n 3, 1) := by decide +kernel
theorem dX10_digs_87 : decode cX10_digs 87 = .ok (.iload 6, 2) := by decide +kernel
theorem dX10_digs_89 : decode cX10_digs 89 = .ok (.iadd, 1) := by decide +kernel
theorem dX10_digs_90 : decode cX10_digs 90 = .ok (.if_icmp .eq 95, 3) := by decide +kernel
theorem dX10_digs_93 : decode cX10_digs 93 = .ok (.iload 5, 2) := by decide +kernel
theorem dX10_digs_95 : decode cX10_digs 95 = .ok (.iload 4, 2) := by decide +kernel
theorem dX10_digs_97 : decode cX10_digs 97 = .ok (.if_icmp .ge 88, 3) := by decide +kernel
theorem dX10_digs_100 : decode cX10_digs 100 = .ok (.iload_n 1, 1) := by decide +kernel
theorem dX10_digs_101 : decode cX10_digs 101 = .ok (.aload_n 0, 1) := by decide +kernel
theorem dX10_digs_102 : decode cX10_digs 102 = .ok (.getfield 7, 3) := by decide +kernel
theorem dX10_digs_105 : decode cX10_digs 105 = .ok (.imul, 1) := by decide +kernel
theorem dX10_digs_106 : decode cX10_digs 106 = .ok (.iload 9, 2) := by decide +kernel
theorem dX10_digs_108 : decode cX10_digs 108 = .ok (.iadd, 1) := by decide +kernel
theorem dX10_digs_109 : decode cX10_digs 109 = .ok (.istore 10, 2) := by decide +kernel
theorem dX10_digs_111 : decode cX10_digs 111 = .ok (.aload_n 0, 1) := by decide +kernel
theorem dX10_digs_112 : decode cX10_digs 112 = .ok (.getfield 20, 3) := by decide +kernel
theorem dX10_digs_115 : decode cX10_digs 115 = .ok (.iload 10, 2) := by decide +kernel
theorem dX10_digs_117 : decode cX10_digs 117 = .ok (.iaload, 1) := by decide +kernel
theorem dX10_digs_118 : decode cX10_digs 118 = .ok (.ifCond .le 57, 3) := by decide +kernel
theorem dX10_digs_121 : decode cX10_digs 121 = .ok (.aload_n 0, 1) := by decide +kernel
theorem dX10_digs_122 : decode cX10_digs 122 = .ok (.getfield 16, 3) := by decide +kernel
theorem dX10_digs_125 : decode cX10_digs 125 = .ok (.iload 10, 2) := by decide +kernel
theorem dX10_digs_127 : decode cX10_digs 127 = .ok (.iaload, 1) := by decide +kernel
theorem dX10_digs_128 : decode cX10_digs 128 = .ok (.aload_n 0, 1) := by decide +kernel
theorem dX10_digs_129 : decode cX10_digs 129 = .ok (.getfield 29, 3) := by decide +kernel
theorem dX10_digs_132 : decode cX10_digs 132 = .ok (.iload 10, 2) := by decide +kernel
theorem dX10_digs_134 : decode cX10_digs 134 = .ok (.iaload, 1) := by decide +kernel
theorem dX10_digs_135 : decode cX10_digs 135 = .ok (.iadd, 1) := by decide +kernel
theorem dX10_digs_136 : decode cX10_digs 136 = .ok (.iconst 1, 1) := by decide +kernel
theorem dX10_digs_137 : decode cX10_digs 137 = .ok (.iadd, 1) := by decide +kernel
theorem dX10_digs_138 : decode cX10_digs 138 = .ok (.aload_n 0, 1) := by decide +kernel
theorem dX10_digs_139 : decode cX10_digs 139 = .ok (.getfield 20, 3) := by decide +kernel
theorem dX10_digs_142 : decode cX10_digs 142 = .ok (.iload 10, 2) := by decide +kernel
theorem dX10_digs_144 : decode cX10_digs 144 = .ok (.iaload, 1) := by decide +kernel
theorem dX10_digs_145 : decode cX10_digs 145 = .ok (.aload_n 0, 1) := by decide +kernel
theorem dX10_digs_146 : decode cX10_digs 146 = .ok (.getfield 32, 3) := by decide +kernel
theorem dX10_digs_149 : decode cX10_digs 149 = .ok (.iconst 0, 1) := by decide +kernel
theorem dX10_digs_150 : decode cX10_digs 150 = .ok (.iaload, 1) := by decide +kernel
theorem dX10_digs_151 : decode cX10_digs 151 = .ok (.iadd, 1) := by decide +kernel
theorem dX10_digs_152 : decode cX10_digs 152 = .ok (.if_icmp .gt 23, 3) := by decide +kernel
theorem dX10_digs_155 : decode cX10_digs 155 = .ok (.aload_n 0, 1) := by decide +kernel
theorem dX10_digs_156 : decode cX10_digs 156 = .ok (.getfield 29, 3) := by decide +kernel
theorem dX10_digs_159 : decode cX10_digs 159 = .ok (.iload 10, 2) := by decide +kernel
theorem dX10_digs_161 : decode cX10_digs 161 = .ok (.dup2, 1) := by decide +kernel
theorem dX10_digs_162 : decode cX10_digs 162 = .ok (.iaload, 1) := by decide +kernel
theorem dX10_digs_163 : decode cX10_digs 163 = .ok (.iconst 1, 1) := by decide +kernel
theorem dX10_digs_164 : decode cX10_digs 164 = .ok (.iadd, 1) := by decide +kernel
theorem dX10_digs_165 : decode cX10_digs 165 = .ok (.iastore, 1) := by decide +kernel
theorem dX10_digs_166 : decode cX10_digs 166 = .ok (.iinc 5 1, 3) := by decide +kernel
theorem dX10_digs_169 : decode cX10_digs 169 = .ok (.aload_n 0, 1) := by decide +kernel
theorem dX10_digs_170 : decode cX10_digs 170 = .ok (.iload 10, 2) := by decide +kernel
theorem dX10_digs_172 : decode cX10_digs 172 = .ok (.putfield 118, 3) := by decide +kernel
theorem dX10_digs_175 : decode cX10_digs 175 = .ok (.iload 9, 2) := by decide +kernel
theorem dX10_digs_177 : decode cX10_digs 177 = .ok (.iload 6, 2) := by decide +kernel
theorem dX10_digs_179 : decode cX10_digs 179 = .ok (.iadd, 1) := by decide +kernel
theorem dX10_digs_180 : decode cX10_digs 180 = .ok (.istore 9, 2) := by decide +kernel
theorem dX10_digs_182 : decode cX10_digs 182 = .ok (.goto (-98), 3) := by decide +kernel
theorem dX10_digs_185 : decode cX10_digs 185 = .ok (.iload 5, 2) := by decide +kernel
theorem dX10_digs_187 : decode cX10_digs 187 = .ok (.iload 8, 2) := by decide +kernel
theorem dX10_digs_189 : decode cX10_digs 189 = .ok (.if_icmp .le 14, 3) := by decide +kernel
theorem dX10_digs_192 : decode cX10_digs 192 = .ok (.iload 5, 2) := by decide +kernel
theorem dX10_digs_194 : decode cX10_digs 194 = .ok (.iload 4, 2) := by decide +kernel
theorem dX10_digs_196 : decode cX10_digs 196 = .ok (.if_icmp .ge 7, 3) := by decide +kernel
theorem dX10_digs_199 : decode cX10_digs 199 = .ok (.iconst 1, 1) := by decide +kernel
theorem dX10_digs_200 : decode cX10_digs 200 = .ok (.goto 4, 3) := by decide +kernel
theorem dX10_digs_203 : decode cX10_digs 203 = .ok (.iconst 0, 1) := by decide +kernel
theorem dX10_digs_204 : decode cX10_digs 204 = .ok (.istore 7, 2) := by decide +kernel
theorem dX10_digs_206 : decode cX10_digs 206 = .ok (.goto (-134), 3) := by decide +kernel
theorem dX10_digs_209 : decode cX10_digs 209 = .ok (.iload 5, 2) := by decide +kernel
theorem dX10_digs_211 : decode cX10_digs 211 = .ok (.ireturn, 1) := by decide +kernel
theorem dX10_waits_0 : decode cX10_waits 0 = .ok (.iconst 0, 1) := by decide +kernel
theorem dX10_waits_1 : decode cX10_waits 1 = .ok (.istore_n 3, 1) := by decide +kernel
theorem dX10_waits_2 : decode cX10_waits 2 = .ok (.iload_n 3, 1) := by decide +kernel
theorem dX10_waits_3 : decode cX10_waits 3 = .ok (.bipush 12, 2) := by decide +kernel
theorem dX10_waits_5 : decode cX10_waits 5 = .ok (.if_icmp .ge 31, 3) := by decide +kernel
theorem dX10_waits_8 : decode cX10_waits 8 = .ok (.aload_n 0, 1) := by decide +kernel
theorem dX10_waits_9 : decode cX10_waits 9 = .ok (.getfield 35, 3) := by decide +kernel
theorem dX10_waits_12 : decode cX10_waits 12 = .ok (.iload_n 1, 1) := by decide +kernel
theorem dX10_waits_13 : decode cX10_waits 13 = .ok (.iload_n 3, 1) := by decide +kernel
theorem dX10_waits_14 : decode cX10_waits 14 = .ok (.iadd, 1) := by decide +kernel
theorem dX10_waits_15 : decode cX10_waits 15 = .ok (.bipush 12, 2) := by decide +kernel
theorem dX10_waits_17 : decode cX10_waits 17 = .ok (.irem, 1) := by decide +kernel
theorem dX10_waits_18 : decode cX10_waits 18 = .ok (.iaload, 1) := by decide +kernel
theorem dX10_waits_19 : decode cX10_waits 19 = .ok (.aload_n 0, 1) := by decide +kernel
theorem dX10_waits_20 : decode cX10_waits 20 = .ok (.getfield 32, 3) := by decide +kernel
theorem dX10_waits_23 : decode cX10_waits 23 = .ok (.iconst 1, 1) := by decide +kernel
theorem dX10_waits_24 : decode cX10_waits 24 = .ok (.iaload, 1) := by decide +kernel
theorem dX10_waits_25 : decode cX10_waits 25 = .ok (.iadd, 1) := by decide +kernel
theorem dX10_waits_26 : decode cX10_waits 26 = .ok (.iload_n 2, 1) := by decide +kernel
theorem dX10_waits_27 : decode cX10_waits 27 = .ok (.if_icmp .ge 9, 3) := by decide +kernel
theorem dX10_waits_30 : decode cX10_waits 30 = .ok (.iinc 3 1, 3) := by decide +kernel
theorem dX10_waits_33 : decode cX10_waits 33 = .ok (.goto (-31), 3) := by decide +kernel
theorem dX10_waits_36 : decode cX10_waits 36 = .ok (.iload_n 3, 1) := by decide +kernel
theorem dX10_waits_37 : decode cX10_waits 37 = .ok (.bipush 12, 2) := by decide +kernel
theorem dX10_waits_39 : decode cX10_waits 39 = .ok (.if_icmp .ne 7, 3) := by decide +kernel
theorem dX10_waits_42 : decode cX10_waits 42 = .ok (.iconst (-1), 1) := by decide +kernel
theorem dX10_waits_43 : decode cX10_waits 43 = .ok (.goto 4, 3) := by decide +kernel
theorem dX10_waits_46 : decode cX10_waits 46 = .ok (.iload_n 3, 1) := by decide +kernel
theorem dX10_waits_47 : decode cX10_waits 47 = .ok (.ireturn, 1) := by decide +kernel
theorem dX10_trip_0 : decode cX10_trip 0 = .ok (.iload_n 1, 1) := by decide +kernel
theorem dX10_trip_1 : decode cX10_trip 1 = .ok (.iconst 0, 1) := by decide +kernel
theorem dX10_trip_2 : decode cX10_trip 2 = .ok (.aload_n 0, 1) := by decide +kernel
theorem dX10_trip_3 : decode cX10_trip 3 = .ok (.getfield 13, 3) := by decide +kernel
theorem dX10_trip_6 : decode cX10_trip 6 = .ok (.iconst 1, 1) := by decide +kernel
theorem dX10_trip_7 : decode cX10_trip 7 = .ok (.isub, 1) := by decide +kernel
theorem dX10_trip_8 : decode cX10_trip 8 = .ok (.invokestatic 69, 3) := by decide +kernel
theorem dX10_trip_11 : decode cX10_trip 11 = .ok (.ifCond .eq 50, 3) := by decide +kernel
theorem dX10_trip_14 : decode cX10_trip 14 = .ok (.iload_n 2, 1) := by decide +kernel
theorem dX10_trip_15 : decode cX10_trip 15 = .ok (.iconst 0, 1) := by decide +kernel
theorem dX10_trip_16 : decode cX10_trip 16 = .ok (.aload_n 0, 1) := by decide +kernel
theorem dX10_trip_17 : decode cX10_trip 17 = .ok (.getfield 7, 3) := by decide +kernel
theorem dX10_trip_20 : decode cX10_trip 20 = .ok (.iconst 1, 1) := by decide +kernel
theorem dX10_trip_21 : decode cX10_trip 21 = .ok (.isub, 1) := by decide +kernel
theorem dX10_trip_22 : decode cX10_trip 22 = .ok (.invokestatic 69, 3) := by decide +kernel
theorem dX10_trip_25 : decode cX10_trip 25 = .ok (.ifCond .eq 36, 3) := by decide +kernel
theorem dX10_trip_28 : decode cX10_trip 28 = .ok (.iload_n 3, 1) := by decide +kernel
theorem dX10_trip_29 : decode cX10_trip 29 = .ok (.iconst 0, 1) := by decide +kernel
theorem dX10_trip_30 : decode cX10_trip 30 = .ok (.aload_n 0, 1) := by decide +kernel
theorem dX10_trip_31 : decode cX10_trip 31 = .ok (.getfield 7, 3) := by decide +kernel
theorem dX10_trip_34 : decode cX10_trip 34 = .ok (.iconst 1, 1) := by decide +kernel
theorem dX10_trip_35 : decode cX10_trip 35 = .ok (.isub, 1) := by decide +kernel
theorem dX10_trip_36 : decode cX10_trip 36 = .ok (.invokestatic 69, 3) := by decide +kernel
theorem dX10_trip_39 : decode cX10_trip 39 = .ok (.ifCond .eq 22, 3) := by decide +kernel
theorem dX10_trip_42 : decode cX10_trip 42 = .ok (.iload 4, 2) := by decide +kernel
theorem dX10_trip_44 : decode cX10_trip 44 = .ok (.iconst 0, 1) := by decide +kernel
theorem dX10_trip_45 : decode cX10_trip 45 = .ok (.bipush 30, 2) := by decide +kernel
theorem dX10_trip_47 : decode cX10_trip 47 = .ok (.invokestatic 69, 3) := by decide +kernel
theorem dX10_trip_50 : decode cX10_trip 50 = .ok (.ifCond .eq 11, 3) := by decide +kernel
theorem dX10_trip_53 : decode cX10_trip 53 = .ok (.iload 5, 2) := by decide +kernel
theorem dX10_trip_55 : decode cX10_trip 55 = .ok (.invokestatic 101, 3) := by decide +kernel
theorem dX10_trip_58 : decode cX10_trip 58 = .ok (.ifCond .ne 5, 3) := by decide +kernel
theorem dX10_trip_61 : decode cX10_trip 61 = .ok (.iconst (-1), 1) := by decide +kernel
theorem dX10_trip_62 : decode cX10_trip 62 = .ok (.ireturn, 1) := by decide +kernel
theorem dX10_trip_63 : decode cX10_trip 63 = .ok (.aload_n 0, 1) := by decide +kernel
theorem dX10_trip_64 : decode cX10_trip 64 = .ok (.iload_n 1, 1) := by decide +kernel
theorem dX10_trip_65 : decode cX10_trip 65 = .ok (.iload_n 2, 1) := by decide +kernel
theorem dX10_trip_66 : decode cX10_trip 66 = .ok (.iload_n 3, 1) := by decide +kernel
theorem dX10_trip_67 : decode cX10_trip 67 = .ok (.aload_n 0, 1) := by decide +kernel
theorem dX10_trip_68 : decode cX10_trip 68 = .ok (.getfield 47, 3) := by decide +kernel
theorem dX10_trip_71 : decode cX10_trip 71 = .ok (.iload 4, 2) := by decide +kernel
theorem dX10_trip_73 : decode cX10_trip 73 = .ok (.iaload, 1) := by decide +kernel
theorem dX10_trip_74 : decode cX10_trip 74 = .ok (.invokevirtual 121, 3) := by decide +kernel
theorem dX10_trip_77 : decode cX10_trip 77 = .ok (.istore 6, 2) := by decide +kernel
theorem dX10_trip_79 : decode cX10_trip 79 = .ok (.aload_n 0, 1) := by decide +kernel
theorem dX10_trip_80 : decode cX10_trip 80 = .ok (.aload_n 0, 1) := by decide +kernel
theorem dX10_trip_81 : decode cX10_trip 81 = .ok (.getfield 76, 3) := by decide +kernel
theorem dX10_trip_84 : decode cX10_trip 84 = .ok (.iconst 1, 1) := by decide +kernel
theorem dX10_trip_85 : decode cX10_trip 85 = .ok (.iadd, 1) := by decide +kernel
theorem dX10_trip_86 : decode cX10_trip 86 = .ok (.iload 6, 2) := by decide +kernel
theorem dX10_trip_88 : decode cX10_trip 88 = .ok (.ifCond .ne 12, 3) := by decide +kernel
theorem dX10_trip_91 : decode cX10_trip 91 = .ok (.aload_n 0, 1) := by decide +kernel
theorem dX10_trip_92 : decode cX10_trip 92 = .ok (.getfield 32, 3) := by decide +kernel
theorem dX10_trip_95 : decode cX10_trip 95 = .ok (.iconst 2, 1) := by decide +kernel
theorem dX10_trip_96 : decode cX10_trip 96 = .ok (.iaload, 1) := by decide +kernel
theorem dX10_trip_97 : decode cX10_trip 97 = .ok (.goto 9, 3) := by decide +kernel
theorem dX10_trip_100 : decode cX10_trip 100 = .ok (.aload_n 0, 1) := by decide +kernel
theorem dX10_trip_101 : decode cX10_trip 101 = .ok (.getfield 32, 3) := by decide +kernel
theorem dX10_trip_104 : decode cX10_trip 104 = .ok (.iconst 3, 1) := by decide +kernel
theorem dX10_trip_105 : decode cX10_trip 105 = .ok (.iaload, 1) := by decide +kernel
theorem dX10_trip_106 : decode cX10_trip 106 = .ok (.invokevirtual 125, 3) := by decide +kernel
theorem dX10_trip_109 : decode cX10_trip 109 = .ok (.istore 7, 2) := by decide +kernel
theorem dX10_trip_111 : decode cX10_trip 111 = .ok (.iload 7, 2) := by decide +kernel
theorem dX10_trip_113 : decode cX10_trip 113 = .ok (.ifCond .ge 7, 3) := by decide +kernel
theorem dX10_trip_116 : decode cX10_trip 116 = .ok (.iconst (-1), 1) := by decide +kernel
theorem dX10_trip_117 : decode cX10_trip 117 = .ok (.goto 30, 3) := by decide +kernel
theorem dX10_trip_120 : decode cX10_trip 120 = .ok (.aload_n 0, 1) := by decide +kernel
theorem dX10_trip_121 : decode cX10_trip 121 = .ok (.aload_n 0, 1) := by decide +kernel
theorem dX10_trip_122 : decode cX10_trip 122 = .ok (.getfield 76, 3) := by decide +kernel
theorem dX10_trip_125 : decode cX10_trip 125 = .ok (.iconst 1, 1) := by decide +kernel
theorem dX10_trip_126 : decode cX10_trip 126 = .ok (.iadd, 1) := by decide +kernel
theorem dX10_trip_127 : decode cX10_trip 127 = .ok (.iload 7, 2) := by decide +kernel
theorem dX10_trip_129 : decode cX10_trip 129 = .ok (.iadd, 1) := by decide +kernel
theorem dX10_trip_130 : decode cX10_trip 130 = .ok (.aload_n 0, 1) := by decide +kernel
theorem dX10_trip_131 : decode cX10_trip 131 = .ok (.getfield 41, 3) := by decide +kernel
theorem dX10_trip_134 : decode cX10_trip 134 = .ok (.iload 5, 2) := by decide +kernel
theorem dX10_trip_136 : decode cX10_trip 136 = .ok (.iaload, 1) := by decide +kernel
theorem dX10_trip_137 : decode cX10_trip 137 = .ok (.iadd, 1) := by decide +kernel
theorem dX10_trip_138 : decode cX10_trip 138 = .ok (.aload_n 0, 1) := by decide +kernel
theorem dX10_trip_139 : decode cX10_trip 139 = .ok (.getfield 32, 3) := by decide +kernel
theorem dX10_trip_142 : decode cX10_trip 142 = .ok (.iconst 2, 1) := by decide +kernel
theorem dX10_trip_143 : decode cX10_trip 143 = .ok (.iaload, 1) := by decide +kernel
theorem dX10_trip_144 : decode cX10_trip 144 = .ok (.invokevirtual 125, 3) := by decide +kernel
theorem dX10_trip_147 : decode cX10_trip 147 = .ok (.istore 8, 2) := by decide +kernel
theorem dX10_trip_149 : decode cX10_trip 149 = .ok (.aload_n 0, 1) := by decide +kernel
theorem dX10_trip_150 : decode cX10_trip 150 = .ok (.getfield 44, 3) := by decide +kernel
theorem dX10_trip_153 : decode cX10_trip 153 = .ok (.iload 5, 2) := by decide +kernel
theorem dX10_trip_155 : decode cX10_trip 155 = .ok (.iaload, 1) := by decide +kernel
theorem dX10_trip_156 : decode cX10_trip 156 = .ok (.iload 6, 2) := by decide +kernel
theorem dX10_trip_158 : decode cX10_trip 158 = .ok (.iadd, 1) := by decide +kernel
theorem dX10_trip_159 : decode cX10_trip 159 = .ok (.aload_n 0, 1) := by decide +kernel
theorem dX10_trip_160 : decode cX10_trip 160 = .ok (.getfield 38, 3) := by decide +kernel
theorem dX10_trip_163 : decode cX10_trip 163 = .ok (.iload 5, 2) := by decide +kernel
theorem dX10_trip_165 : decode cX10_trip 165 = .ok (.iaload, 1) := by decide +kernel
theorem dX10_trip_166 : decode cX10_trip 166 = .ok (.if_icmp .gt 8, 3) := by decide +kernel
theorem dX10_trip_169 : decode cX10_trip 169 = .ok (.iload 8, 2) := by decide +kernel
theorem dX10_trip_171 : decode cX10_trip 171 = .ok (.ifCond .ge 6, 3) := by decide +kernel
theorem dX10_trip_174 : decode cX10_trip 174 = .ok (.bipush (-2), 2) := by decide +kernel
theorem dX10_trip_176 : decode cX10_trip 176 = .ok (.ireturn, 1) := by decide +kernel
theorem dX10_trip_177 : decode cX10_trip 177 = .ok (.iconst 1, 1) := by decide +kernel
theorem dX10_trip_178 : decode cX10_trip 178 = .ok (.iload 7, 2) := by decide +kernel
theorem dX10_trip_180 : decode cX10_trip 180 = .ok (.iadd, 1) := by decide +kernel
theorem dX10_trip_181 : decode cX10_trip 181 = .ok (.iload 8, 2) := by decide +kernel
theorem dX10_trip_183 : decode cX10_trip 183 = .ok (.iadd, 1) := by decide +kernel
theorem dX10_trip_184 : decode cX10_trip 184 = .ok (.iconst 2, 1) := by decide +kernel
theorem dX10_trip_185 : decode cX10_trip 185 = .ok (.aload_n 0, 1) := by decide +kernel
theorem dX10_trip_186 : decode cX10_trip 186 = .ok (.getfield 41, 3) := by decide +kernel
theorem dX10_trip_189 : decode cX10_trip 189 = .ok (.iload 5, 2) := by decide +kernel
theorem dX10_trip_191 : decode cX10_trip 191 = .ok (.iaload, 1) := by decide +kernel
theorem dX10_trip_192 : decode cX10_trip 192 = .ok (.imul, 1) := by decide +kernel
theorem dX10_trip_193 : decode cX10_trip 193 = .ok (.iadd, 1) := by decide +kernel
theorem dX10_trip_194 : decode cX10_trip 194 = .ok (.istore 9, 2) := by decide +kernel
theorem dX10_trip_196 : decode cX10_trip 196 = .ok (.aload_n 0, 1) := by decide +kernel
theorem dX10_trip_197 : decode cX10_trip 197 = .ok (.getfield 76, 3) := by decide +kernel
theorem dX10_trip_200 : decode cX10_trip 200 = .ok (.iload 9, 2) := by decide +kernel
theorem dX10_trip_202 : decode cX10_trip 202 = .ok (.iadd, 1) := by decide +kernel
theorem dX10_trip_203 : decode cX10_trip 203 = .ok (.sipush 5000, 3) := by decide +kernel
theorem dX10_trip_206 : decode cX10_trip 206 = .ok (.if_icmp .le 6, 3) := by decide +kernel
theorem dX10_trip_209 : decode cX10_trip 209 = .ok (.bipush (-3), 2) := by decide +kernel
theorem dX10_trip_211 : decode cX10_trip 211 = .ok (.ireturn, 1) := by decide +kernel
theorem dX10_trip_212 : decode cX10_trip 212 = .ok (.iconst 0, 1) := by decide +kernel
theorem dX10_trip_213 : decode cX10_trip 213 = .ok (.istore 10, 2) := by decide +kernel
theorem dX10_trip_215 : decode cX10_trip 215 = .ok (.iload 10, 2) := by decide +kernel
theorem dX10_trip_217 : decode cX10_trip 217 = .ok (.aload_n 0, 1) := by decide +kernel
theorem dX10_trip_218 : decode cX10_trip 218 = .ok (.getfield 7, 3) := by decide +kernel
theorem dX10_trip_221 : decode cX10_trip 221 = .ok (.aload_n 0, 1) := by decide +kernel
theorem dX10_trip_222 : decode cX10_trip 222 = .ok (.getfield 13, 3) := by decide +kernel
theorem dX10_trip_225 : decode cX10_trip 225 = .ok (.imul, 1) := by decide +kernel
theorem dX10_trip_226 : decode cX10_trip 226 = .ok (.if_icmp .ge 26, 3) := by decide +kernel
theorem dX10_trip_229 : decode cX10_trip 229 = .ok (.aload_n 0, 1) := by decide +kernel
theorem dX10_trip_230 : decode cX10_trip 230 = .ok (.getfield 16, 3) := by decide +kernel
theorem dX10_trip_233 : decode cX10_trip 233 = .ok (.iload 10, 2) := by decide +kernel
theorem dX10_trip_235 : decode cX10_trip 235 = .ok (.dup2, 1) := by decide +kernel
theorem dX10_trip_236 : decode cX10_trip 236 = .ok (.iaload, 1) := by decide +kernel
theorem dX10_trip_237 : decode cX10_trip 237 = .ok (.aload_n 0, 1) := by decide +kernel
theorem dX10_trip_238 : decode cX10_trip 238 = .ok (.getfield 29, 3) := by decide +kernel
theorem dX10_trip_241 : decode cX10_trip 241 = .ok (.iload 10, 2) := by decide +kernel
theorem dX10_trip_243 : decode cX10_trip 243 = .ok (.iaload, 1) := by decide +kernel
theorem dX10_trip_244 : decode cX10_trip 244 = .ok (.iadd, 1) := by decide +kernel
theorem dX10_trip_245 : decode cX10_trip 245 = .ok (.iastore, 1) := by decide +kernel
theorem dX10_trip_246 : decode cX10_trip 246 = .ok (.iinc 10 1, 3) := by decide +kernel
theorem dX10_trip_249 : decode cX10_trip 249 = .ok (.goto (-34), 3) := by decide +kernel
theorem dX10_trip_252 : decode cX10_trip 252 = .ok (.iconst 4, 1) := by decide +kernel
theorem dX10_trip_253 : decode cX10_trip 253 = .ok (.iload 4, 2) := by decide +kernel
theorem dX10_trip_255 : decode cX10_trip 255 = .ok (.imul, 1) := by decide +kernel
theorem dX10_trip_256 : decode cX10_trip 256 = .ok (.iload 6, 2) := by decide +kernel
theorem dX10_trip_258 : decode cX10_trip 258 = .ok (.isub, 1) := by decide +kernel
theorem dX10_trip_259 : decode cX10_trip 259 = .ok (.istore 10, 2) := by decide +kernel
theorem dX10_trip_261 : decode cX10_trip 261 = .ok (.iload 10, 2) := by decide +kernel
theorem dX10_trip_263 : decode cX10_trip 263 = .ok (.ifCond .ge 7, 3) := by decide +kernel
theorem dX10_trip_266 : decode cX10_trip 266 = .ok (.iconst 0, 1) := by decide +kernel
theorem dX10_trip_267 : decode cX10_trip 267 = .ok (.goto 5, 3) := by decide +kernel
theorem dX10_trip_270 : decode cX10_trip 270 = .ok (.iload 10, 2) := by decide +kernel
theorem dX10_trip_272 : decode cX10_trip 272 = .ok (.istore 10, 2) := by decide +kernel
theorem dX10_trip_274 : decode cX10_trip 274 = .ok (.aload_n 0, 1) := by decide +kernel
theorem dX10_trip_275 : decode cX10_trip 275 = .ok (.getfield 23, 3) := by decide +kernel
theorem dX10_trip_278 : decode cX10_trip 278 = .ok (.aload_n 0, 1) := by decide +kernel
theorem dX10_trip_279 : decode cX10_trip 279 = .ok (.getfield 118, 3) := by decide +kernel
theorem dX10_trip_282 : decode cX10_trip 282 = .ok (.dup2, 1) := by decide +kernel
theorem dX10_trip_283 : decode cX10_trip 283 = .ok (.iaload, 1) := by decide +kernel
theorem dX10_trip_284 : decode cX10_trip 284 = .ok (.iload 10, 2) := by decide +kernel
theorem dX10_trip_286 : decode cX10_trip 286 = .ok (.iadd, 1) := by decide +kernel
theorem dX10_trip_287 : decode cX10_trip 287 = .ok (.iastore, 1) := by decide +kernel
theorem dX10_trip_288 : decode cX10_trip 288 = .ok (.aload_n 0, 1) := by decide +kernel
theorem dX10_trip_289 : decode cX10_trip 289 = .ok (.dup, 1) := by decide +kernel
theorem dX10_trip_290 : decode cX10_trip 290 = .ok (.getfield 85, 3) := by decide +kernel
theorem dX10_trip_293 : decode cX10_trip 293 = .ok (.iload 10, 2) := by decide +kernel
theorem dX10_trip_295 : decode cX10_trip 295 = .ok (.iadd, 1) := by decide +kernel
theorem dX10_trip_296 : decode cX10_trip 296 = .ok (.putfield 85, 3) := by decide +kernel
theorem dX10_trip_299 : decode cX10_trip 299 = .ok (.aload_n 0, 1) := by decide +kernel
theorem dX10_trip_300 : decode cX10_trip 300 = .ok (.dup, 1) := by decide +kernel
theorem dX10_trip_301 : decode cX10_trip 301 = .ok (.getfield 82, 3) := by decide +kernel
theorem dX10_trip_304 : decode cX10_trip 304 = .ok (.iload 6, 2) := by decide +kernel
theorem dX10_trip_306 : decode cX10_trip 306 = .ok (.iadd, 1) := by decide +kernel
theorem dX10_trip_307 : decode cX10_trip 307 = .ok (.putfield 82, 3) := by decide +kernel
theorem dX10_trip_310 : decode cX10_trip 310 = .ok (.aload_n 0, 1) := by decide +kernel
theorem dX10_trip_311 : decode cX10_trip 311 = .ok (.getfield 44, 3) := by decide +kernel
theorem dX10_trip_314 : decode cX10_trip 314 = .ok (.iload 5, 2) := by decide +kernel
theorem dX10_trip_316 : decode cX10_trip 316 = .ok (.dup2, 1) := by decide +kernel
theorem dX10_trip_317 : decode cX10_trip 317 = .ok (.iaload, 1) := by decide +kernel
theorem dX10_trip_318 : decode cX10_trip 318 = .ok (.iload 6, 2) := by decide +kernel
theorem dX10_trip_320 : decode cX10_trip 320 = .ok (.iadd, 1) := by decide +kernel
theorem dX10_trip_321 : decode cX10_trip 321 = .ok (.iastore, 1) := by decide +kernel
theorem dX10_trip_322 : decode cX10_trip 322 = .ok (.aload_n 0, 1) := by decide +kernel
theorem dX10_trip_323 : decode cX10_trip 323 = .ok (.dup, 1) := by decide +kernel
theorem dX10_trip_324 : decode cX10_trip 324 = .ok (.getfield 79, 3) := by decide +kernel
theorem dX10_trip_327 : decode cX10_trip 327 = .ok (.iconst 1, 1) := by decide +kernel
theorem dX10_trip_328 : decode cX10_trip 328 = .ok (.iadd, 1) := by decide +kernel
theorem dX10_trip_329 : decode cX10_trip 329 = .ok (.putfield 79, 3) := by decide +kernel
theorem dX10_trip_332 : decode cX10_trip 332 = .ok (.iconst 0, 1) := by decide +kernel
theorem dX10_trip_333 : decode cX10_trip 333 = .ok (.istore 11, 2) := by decide +kernel
theorem dX10_trip_335 : decode cX10_trip 335 = .ok (.iload 11, 2) := by decide +kernel
theorem dX10_trip_337 : decode cX10_trip 337 = .ok (.iload 9, 2) := by decide +kernel
theorem dX10_trip_339 : decode cX10_trip 339 = .ok (.if_icmp .ge 13, 3) := by decide +kernel
theorem dX10_trip_342 : decode cX10_trip 342 = .ok (.aload_n 0, 1) := by decide +kernel
theorem dX10_trip_343 : decode cX10_trip 343 = .ok (.invokevirtual 115, 3) := by decide +kernel
theorem dX10_trip_346 : decode cX10_trip 346 = .ok (.iinc 11 1, 3) := by decide +kernel
theorem dX10_trip_349 : decode cX10_trip 349 = .ok (.goto (-14), 3) := by decide +kernel
theorem dX10_trip_352 : decode cX10_trip 352 = .ok (.iload 6, 2) := by decide +kernel
theorem dX10_trip_354 : decode cX10_trip 354 = .ok (.ireturn, 1) := by decide +kernel
theorem dX10_isSix_0 : decode cX10_isSix 0 = .ok (.iload_n 0, 1) := by decide +kernel
theorem dX10_isSix_1 : decode cX10_isSix 1 = .ok (.iconst 0, 1) := by decide +kernel
theorem dX10_isSix_2 : decode cX10_isSix 2 = .ok (.iconst 5, 1) := by decide +kernel
theorem dX10_isSix_3 : decode cX10_isSix 3 = .ok (.invokestatic 69, 3) := by decide +kernel
theorem dX10_isSix_6 : decode cX10_isSix 6 = .ok (.ireturn, 1) := by decide +kernel
theorem dX10_sound_0 : decode cX10_sound 0 = .ok (.iload_n 1, 1) := by decide +kernel
theorem dX10_sound_1 : decode cX10_sound 1 = .ok (.invokestatic 129, 3) := by decide +kernel
theorem dX10_sound_4 : decode cX10_sound 4 = .ok (.ifCond .ne 5, 3) := by decide +kernel
theorem dX10_sound_7 : decode cX10_sound 7 = .ok (.iconst (-1), 1) := by decide +kernel
theorem dX10_sound_8 : decode cX10_sound 8 = .ok (.ireturn, 1) := by decide +kernel
theorem dX10_sound_9 : decode cX10_sound 9 = .ok (.aload_n 0, 1) := by decide +kernel
theorem dX10_sound_10 : decode cX10_sound 10 = .ok (.getfield 59, 3) := by decide +kernel
theorem dX10_sound_13 : decode cX10_sound 13 = .ok (.iload_n 1, 1) := by decide +kernel
theorem dX10_sound_14 : decode cX10_sound 14 = .ok (.iconst 1, 1) := by decide +kernel
theorem dX10_sound_15 : decode cX10_sound 15 = .ok (.bastore, 1) := by decide +kernel
theorem dX10_sound_16 : decode cX10_sound 16 = .ok (.iconst 0, 1) := by decide +kernel
theorem dX10_sound_17 : decode cX10_sound 17 = .ok (.istore_n 2, 1) := by decide +kernel
theorem dX10_sound_18 : decode cX10_sound 18 = .ok (.iload_n 2, 1) := by decide +kernel
theorem dX10_sound_19 : decode cX10_sound 19 = .ok (.aload_n 0, 1) := by decide +kernel
theorem dX10_sound_20 : decode cX10_sound 20 = .ok (.getfield 7, 3) := by decide +kernel
theorem dX10_sound_23 : decode cX10_sound 23 = .ok (.aload_n 0, 1) := by decide +kernel
theorem dX10_sound_24 : decode cX10_sound 24 = .ok (.getfield 13, 3) := by decide +kernel
theorem dX10_sound_27 : decode cX10_sound 27 = .ok (.imul, 1) := by decide +kernel
theorem dX10_sound_28 : decode cX10_sound 28 = .ok (.if_icmp .ge 26, 3) := by decide +kernel
theorem dX10_sound_31 : decode cX10_sound 31 = .ok (.aload_n 0, 1) := by decide +kernel
theorem dX10_sound_32 : decode cX10_sound 32 = .ok (.getfield 63, 3) := by decide +kernel
theorem dX10_sound_35 : decode cX10_sound 35 = .ok (.bipush 120, 2) := by decide +kernel
theorem dX10_sound_37 : decode cX10_sound 37 = .ok (.iload_n 1, 1) := by decide +kernel
theorem dX10_sound_38 : decode cX10_sound 38 = .ok (.imul, 1) := by decide +kernel
theorem dX10_sound_39 : decode cX10_sound 39 = .ok (.iload_n 2, 1) := by decide +kernel
theorem dX10_sound_40 : decode cX10_sound 40 = .ok (.iadd, 1) := by decide +kernel
theorem dX10_sound_41 : decode cX10_sound 41 = .ok (.aload_n 0, 1) := by decide +kernel
theorem dX10_sound_42 : decode cX10_sound 42 = .ok (.getfield 16, 3) := by decide +kernel
theorem dX10_sound_45 : decode cX10_sound 45 = .ok (.iload_n 2, 1) := by decide +kernel
theorem dX10_sound_46 : decode cX10_sound 46 = .ok (.iaload, 1) := by decide +kernel
theorem dX10_sound_47 : decode cX10_sound 47 = .ok (.iastore, 1) := by decide +kernel
theorem dX10_sound_48 : decode cX10_sound 48 = .ok (.iinc 2 1, 3) := by decide +kernel
theorem dX10_sound_51 : decode cX10_sound 51 = .ok (.goto (-33), 3) := by decide +kernel
theorem dX10_sound_54 : decode cX10_sound 54 = .ok (.iconst 0, 1) := by decide +kernel
theorem dX10_sound_55 : decode cX10_sound 55 = .ok (.ireturn, 1) := by decide +kernel
theorem dX10_lose_0 : decode cX10_lose 0 = .ok (.iload_n 1, 1) := by decide +kernel
theorem dX10_lose_1 : decode cX10_lose 1 = .ok (.invokestatic 129, 3) := by decide +kernel
theorem dX10_lose_4 : decode cX10_lose 4 = .ok (.ifCond .eq 11, 3) := by decide +kernel
theorem dX10_lose_7 : decode cX10_lose 7 = .ok (.aload_n 0, 1) := by decide +kernel
theorem dX10_lose_8 : decode cX10_lose 8 = .ok (.iload_n 2, 1) := by decide +kernel
theorem dX10_lose_9 : decode cX10_lose 9 = .ok (.invokevirtual 97, 3) := by decide +kernel
theorem dX10_lose_12 : decode cX10_lose 12 = .ok (.ifCond .ne 5, 3) := by decide +kernel
theorem dX10_lose_15 : decode cX10_lose 15 = .ok (.iconst (-1), 1) := by decide +kernel
theorem dX10_lose_16 : decode cX10_lose 16 = .ok (.ireturn, 1) := by decide +kernel
theorem dX10_lose_17 : decode cX10_lose 17 = .ok (.aload_n 0, 1) := by decide +kernel
theorem dX10_lose_18 : decode cX10_lose 18 = .ok (.getfield 59, 3) := by decide +kernel
theorem dX10_lose_21 : decode cX10_lose 21 = .ok (.iload_n 1, 1) := by decide +kernel
theorem dX10_lose_22 : decode cX10_lose 22 = .ok (.baload, 1) := by decide +kernel
theorem dX10_lose_23 : decode cX10_lose 23 = .ok (.ifCond .ne 6, 3) := by decide +kernel
theorem dX10_lose_26 : decode cX10_lose 26 = .ok (.bipush (-2), 2) := by decide +kernel
theorem dX10_lose_28 : decode cX10_lose 28 = .ok (.ireturn, 1) := by decide +kernel
theorem dX10_lose_29 : decode cX10_lose 29 = .ok (.aload_n 0, 1) := by decide +kernel
theorem dX10_lose_30 : decode cX10_lose 30 = .ok (.getfield 63, 3) := by decide +kernel
theorem dX10_lose_33 : decode cX10_lose 33 = .ok (.bipush 120, 2) := by decide +kernel
theorem dX10_lose_35 : decode cX10_lose 35 = .ok (.iload_n 1, 1) := by decide +kernel
theorem dX10_lose_36 : decode cX10_lose 36 = .ok (.imul, 1) := by decide +kernel
theorem dX10_lose_37 : decode cX10_lose 37 = .ok (.iload_n 2, 1) := by decide +kernel
theorem dX10_lose_38 : decode cX10_lose 38 = .ok (.iadd, 1) := by decide +kernel
theorem dX10_lose_39 : decode cX10_lose 39 = .ok (.iaload, 1) := by decide +kernel
theorem dX10_lose_40 : decode cX10_lose 40 = .ok (.bipush (-4), 2) := by decide +kernel
theorem dX10_lose_42 : decode cX10_lose 42 = .ok (.if_icmp .ne 7, 3) := by decide +kernel
theorem dX10_lose_45 : decode cX10_lose 45 = .ok (.iconst 1, 1) := by decide +kernel
theorem dX10_lose_46 : decode cX10_lose 46 = .ok (.goto 4, 3) := by decide +kernel
theorem dX10_lose_49 : decode cX10_lose 49 = .ok (.iconst 0, 1) := by decide +kernel
theorem dX10_lose_50 : decode cX10_lose 50 = .ok (.istore_n 3, 1) := by decide +kernel
theorem dX10_lose_51 : decode cX10_lose 51 = .ok (.aload_n 0, 1) := by decide +kernel
theorem dX10_lose_52 : decode cX10_lose 52 = .ok (.getfield 63, 3) := by decide +kernel
theorem dX10_lose_55 : decode cX10_lose 55 = .ok (.bipush 120, 2) := by decide +kernel
theorem dX10_lose_57 : decode cX10_lose 57 = .ok (.iload_n 1, 1) := by decide +kernel
theorem dX10_lose_58 : decode cX10_lose 58 = .ok (.imul, 1) := by decide +kernel
theorem dX10_lose_59 : decode cX10_lose 59 = .ok (.iload_n 2, 1) := by decide +kernel
theorem dX10_lose_60 : decode cX10_lose 60 = .ok (.iadd, 1) := by decide +kernel
theorem dX10_lose_61 : decode cX10_lose 61 = .ok (.bipush (-4), 2) := by decide +kernel
theorem dX10_lose_63 : decode cX10_lose 63 = .ok (.iastore, 1) := by decide +kernel
theorem dX10_lose_64 : decode cX10_lose 64 = .ok (.iload_n 3, 1) := by decide +kernel
theorem dX10_lose_65 : decode cX10_lose 65 = .ok (.ifCond .eq 7, 3) := by decide +kernel
theorem dX10_lose_68 : decode cX10_lose 68 = .ok (.iconst 0, 1) := by decide +kernel
theorem dX10_lose_69 : decode cX10_lose 69 = .ok (.goto 4, 3) := by decide +kernel
theorem dX10_lose_72 : decode cX10_lose 72 = .ok (.iconst 1, 1) := by decide +kernel
theorem dX10_lose_73 : decode cX10_lose 73 = .ok (.ireturn, 1) := by decide +kernel
theorem dX10_join_0 : decode cX10_join 0 = .ok (.iload_n 1, 1) := by decide +kernel
theorem dX10_join_1 : decode cX10_join 1 = .ok (.invokestatic 129, 3) := by decide +kernel
theorem dX10_join_4 : decode cX10_join 4 = .ok (.ifCond .eq 10, 3) := by decide +kernel
theorem dX10_join_7 : decode cX10_join 7 = .ok (.iload_n 2, 1) := by decide +kernel
theorem dX10_join_8 : decode cX10_join 8 = .ok (.invokestatic 129, 3) := by decide +kernel
theorem dX10_join_11 : decode cX10_join 11 = .ok (.ifCond .ne 5, 3) := by decide +kernel
theorem dX10_join_14 : decode cX10_join 14 = .ok (.iconst (-1), 1) := by decide +kernel
theorem dX10_join_15 : decode cX10_join 15 = .ok (.ireturn, 1) := by decide +kernel
theorem dX10_join_16 : decode cX10_join 16 = .ok (.aload_n 0, 1) := by decide +kernel
theorem dX10_join_17 : decode cX10_join 17 = .ok (.getfield 59, 3) := by decide +kernel
theorem dX10_join_20 : decode cX10_join 20 = .ok (.iload_n 1, 1) := by decide +kernel
theorem dX10_join_21 : decode cX10_join 21 = .ok (.baload, 1) := by decide +kernel
theorem dX10_join_22 : decode cX10_join 22 = .ok (.ifCond .eq 12, 3) := by decide +kernel
theorem dX10_join_25 : decode cX10_join 25 = .ok (.aload_n 0, 1) := by decide +kernel
theorem dX10_join_26 : decode cX10_join 26 = .ok (.getfield 59, 3) := by decide +kernel
theorem dX10_join_29 : decode cX10_join 29 = .ok (.iload_n 2, 1) := by decide +kernel
theorem dX10_join_30 : decode cX10_join 30 = .ok (.baload, 1) := by decide +kernel
theorem dX10_join_31 : decode cX10_join 31 = .ok (.ifCond .ne 6, 3) := by decide +kernel
theorem dX10_join_34 : decode cX10_join 34 = .ok (.bipush (-2), 2) := by decide +kernel
theorem dX10_join_36 : decode cX10_join 36 = .ok (.ireturn, 1) := by decide +kernel
theorem dX10_join_37 : decode cX10_join 37 = .ok (.iconst 0, 1) := by decide +kernel
theorem dX10_join_38 : decode cX10_join 38 = .ok (.istore_n 3, 1) := by decide +kernel
theorem dX10_join_39 : decode cX10_join 39 = .ok (.iconst 0, 1) := by decide +kernel
theorem dX10_join_40 : decode cX10_join 40 = .ok (.istore 4, 2) := by decide +kernel
theorem dX10_join_42 : decode cX10_join 42 = .ok (.iload 4, 2) := by decide +kernel
theorem dX10_join_44 : decode cX10_join 44 = .ok (.aload_n 0, 1) := by decide +kernel
theorem dX10_join_45 : decode cX10_join 45 = .ok (.getfield 7, 3) := by decide +kernel
theorem dX10_join_48 : decode cX10_join 48 = .ok (.aload_n 0, 1) := by decide +kernel
theorem dX10_join_49 : decode cX10_join 49 = .ok (.getfield 13, 3) := by decide +kernel
theorem dX10_join_52 : decode cX10_join 52 = .ok (.imul, 1) := by decide +kernel
theorem dX10_join_53 : decode cX10_join 53 = .ok (.if_icmp .ge 70, 3) := by decide +kernel
theorem dX10_join_56 : decode cX10_join 56 = .ok (.aload_n 0, 1) := by decide +kernel
theorem dX10_join_57 : decode cX10_join 57 = .ok (.getfield 63, 3) := by decide +kernel
theorem dX10_join_60 : decode cX10_join 60 = .ok (.bipush 120, 2) := by decide +kernel
theorem dX10_join_62 : decode cX10_join 62 = .ok (.iload_n 1, 1) := by decide +kernel
theorem dX10_join_63 : decode cX10_join 63 = .ok (.imul, 1) := by decide +kernel
theorem dX10_join_64 : decode cX10_join 64 = .ok (.iload 4, 2) := by decide +kernel
theorem dX10_join_66 : decode cX10_join 66 = .ok (.iadd, 1) := by decide +kernel
theorem dX10_join_67 : decode cX10_join 67 = .ok (.iaload, 1) := by decide +kernel
theorem dX10_join_68 : decode cX10_join 68 = .ok (.bipush (-4), 2) := by decide +kernel
theorem dX10_join_70 : decode cX10_join 70 = .ok (.if_icmp .ne 47, 3) := by decide +kernel
theorem dX10_join_73 : decode cX10_join 73 = .ok (.aload_n 0, 1) := by decide +kernel
theorem dX10_join_74 : decode cX10_join 74 = .ok (.getfield 63, 3) := by decide +kernel
theorem dX10_join_77 : decode cX10_join 77 = .ok (.bipush 120, 2) := by decide +kernel
theorem dX10_join_79 : decode cX10_join 79 = .ok (.iload_n 2, 1) := by decide +kernel
theorem dX10_join_80 : decode cX10_join 80 = .ok (.imul, 1) := by decide +kernel
theorem dX10_join_81 : decode cX10_join 81 = .ok (.iload 4, 2) := by decide +kernel
theorem dX10_join_83 : decode cX10_join 83 = .ok (.iadd, 1) := by decide +kernel
theorem dX10_join_84 : decode cX10_join 84 = .ok (.iaload, 1) := by decide +kernel
theorem dX10_join_85 : decode cX10_join 85 = .ok (.bipush (-4), 2) := by decide +kernel
theorem dX10_join_87 : decode cX10_join 87 = .ok (.if_icmp .eq 30, 3) := by decide +kernel
theorem dX10_join_90 : decode cX10_join 90 = .ok (.aload_n 0, 1) := by decide +kernel
theorem dX10_join_91 : decode cX10_join 91 = .ok (.getfield 63, 3) := by decide +kernel
theorem dX10_join_94 : decode cX10_join 94 = .ok (.bipush 120, 2) := by decide +kernel
theorem dX10_join_96 : decode cX10_join 96 = .ok (.iload_n 1, 1) := by decide +kernel
theorem dX10_join_97 : decode cX10_join 97 = .ok (.imul, 1) := by decide +kernel
theorem dX10_join_98 : decode cX10_join 98 = .ok (.iload 4, 2) := by decide +kernel
theorem dX10_join_100 : decode cX10_join 100 = .ok (.iadd, 1) := by decide +kernel
theorem dX10_join_101 : decode cX10_join 101 = .ok (.aload_n 0, 1) := by decide +kernel
theorem dX10_join_102 : decode cX10_join 102 = .ok (.getfield 63, 3) := by decide +kernel
theorem dX10_join_105 : decode cX10_join 105 = .ok (.bipush 120, 2) := by decide +kernel
theorem dX10_join_107 : decode cX10_join 107 = .ok (.iload_n 2, 1) := by decide +kernel
theorem dX10_join_108 : decode cX10_join 108 = .ok (.imul, 1) := by decide +kernel
theorem dX10_join_109 : decode cX10_join 109 = .ok (.iload 4, 2) := by decide +kernel
theorem dX10_join_111 : decode cX10_join 111 = .ok (.iadd, 1) := by decide +kernel
theorem dX10_join_112 : decode cX10_join 112 = .ok (.iaload, 1) := by decide +kernel
theorem dX10_join_113 : decode cX10_join 113 = .ok (.iastore, 1) := by decide +kernel
theorem dX10_join_114 : decode cX10_join 114 = .ok (.iinc 3 1, 3) := by decide +kernel
theorem dX10_join_117 : decode cX10_join 117 = .ok (.iinc 4 1, 3) := by decide +kernel
theorem dX10_join_120 : decode cX10_join 120 = .ok (.goto (-78), 3) := by decide +kernel
theorem dX10_join_123 : decode cX10_join 123 = .ok (.iload_n 3, 1) := by decide +kernel
theorem dX10_join_124 : decode cX10_join 124 = .ok (.ireturn, 1) := by decide +kernel
theorem dX10_between_0 : decode cX10_between 0 = .ok (.iload_n 1, 1) := by decide +kernel
theorem dX10_between_1 : decode cX10_between 1 = .ok (.invokestatic 129, 3) := by decide +kernel
theorem dX10_between_4 : decode cX10_between 4 = .ok (.ifCond .eq 19, 3) := by decide +kernel
theorem dX10_between_7 : decode cX10_between 7 = .ok (.iload_n 2, 1) := by decide +kernel
theorem dX10_between_8 : decode cX10_between 8 = .ok (.invokestatic 129, 3) := by decide +kernel
theorem dX10_between_11 : decode cX10_between 11 = .ok (.ifCond .eq 12, 3) := by decide +kernel
theorem dX10_between_14 : decode cX10_between 14 = .ok (.iload_n 3, 1) := by decide +kernel
theorem dX10_between_15 : decode cX10_between 15 = .ok (.iconst 0, 1) := by decide +kernel
theorem dX10_between_16 : decode cX10_between 16 = .ok (.iconst 2, 1) := by decide +kernel
theorem dX10_between_17 : decode cX10_between 17 = .ok (.invokestatic 69, 3) := by decide +kernel
theorem dX10_between_20 : decode cX10_between 20 = .ok (.ifCond .ne 6, 3) := by decide +kernel
theorem dX10_between_23 : decode cX10_between 23 = .ok (.ldc 132, 2) := by decide +kernel
theorem dX10_between_25 : decode cX10_between 25 = .ok (.ireturn, 1) := by decide +kernel
theorem dX10_between_26 : decode cX10_between 26 = .ok (.aload_n 0, 1) := by decide +kernel
theorem dX10_between_27 : decode cX10_between 27 = .ok (.getfield 59, 3) := by decide +kernel
theorem dX10_between_30 : decode cX10_between 30 = .ok (.iload_n 1, 1) := by decide +kernel
theorem dX10_between_31 : decode cX10_between 31 = .ok (.baload, 1) := by decide +kernel
theorem dX10_between_32 : decode cX10_between 32 = .ok (.ifCond .eq 12, 3) := by decide +kernel
theorem dX10_between_35 : decode cX10_between 35 = .ok (.aload_n 0, 1) := by decide +kernel
theorem dX10_between_36 : decode cX10_between 36 = .ok (.getfield 59, 3) := by decide +kernel
theorem dX10_between_39 : decode cX10_between 39 = .ok (.iload_n 2, 1) := by decide +kernel
theorem dX10_between_40 : decode cX10_between 40 = .ok (.baload, 1) := by decide +kernel
theorem dX10_between_41 : decode cX10_between 41 = .ok (.ifCond .ne 6, 3) := by decide +kernel
theorem dX10_between_44 : decode cX10_between 44 = .ok (.ldc 133, 2) := by decide +kernel
theorem dX10_between_46 : decode cX10_between 46 = .ok (.ireturn, 1) := by decide +kernel
theorem dX10_between_47 : decode cX10_between 47 = .ok (.iconst 0, 1) := by decide +kernel
theorem dX10_between_48 : decode cX10_between 48 = .ok (.istore 4, 2) := by decide +kernel
theorem dX10_between_50 : decode cX10_between 50 = .ok (.iconst 0, 1) := by decide +kernel
theorem dX10_between_51 : decode cX10_between 51 = .ok (.istore 5, 2) := by decide +kernel
theorem dX10_between_53 : decode cX10_between 53 = .ok (.iload 5, 2) := by decide +kernel
theorem dX10_between_55 : decode cX10_between 55 = .ok (.aload_n 0, 1) := by decide +kernel
theorem dX10_between_56 : decode cX10_between 56 = .ok (.getfield 7, 3) := by decide +kernel
theorem dX10_between_59 : decode cX10_between 59 = .ok (.aload_n 0, 1) := by decide +kernel
theorem dX10_between_60 : decode cX10_between 60 = .ok (.getfield 13, 3) := by decide +kernel
theorem dX10_between_63 : decode cX10_between 63 = .ok (.imul, 1) := by decide +kernel
theorem dX10_between_64 : decode cX10_between 64 = .ok (.if_icmp .ge 205, 3) := by decide +kernel
theorem dX10_between_67 : decode cX10_between 67 = .ok (.aload_n 0, 1) := by decide +kernel
theorem dX10_between_68 : decode cX10_between 68 = .ok (.getfield 63, 3) := by decide +kernel
theorem dX10_between_71 : decode cX10_between 71 = .ok (.bipush 120, 2) := by decide +kernel
theorem dX10_between_73 : decode cX10_between 73 = .ok (.iload_n 1, 1) := by decide +kernel
theorem dX10_between_74 : decode cX10_between 74 = .ok (.imul, 1) := by decide +kernel
theorem dX10_between_75 : decode cX10_between 75 = .ok (.iload 5, 2) := by decide +kernel
theorem dX10_between_77 : decode cX10_between 77 = .ok (.iadd, 1) := by decide +kernel
theorem dX10_between_78 : decode cX10_between 78 = .ok (.iaload, 1) := by decide +kernel
theorem dX10_between_79 : decode cX10_between 79 = .ok (.istore 6, 2) := by decide +kernel
theorem dX10_between_81 : decode cX10_between 81 = .ok (.aload_n 0, 1) := by decide +kernel
theorem dX10_between_82 : decode cX10_between 82 = .ok (.getfield 63, 3) := by decide +kernel
theorem dX10_between_85 : decode cX10_between 85 = .ok (.bipush 120, 2) := by decide +kernel
theorem dX10_between_87 : decode cX10_between 87 = .ok (.iload_n 2, 1) := by decide +kernel
theorem dX10_between_88 : decode cX10_between 88 = .ok (.imul, 1) := by decide +kernel
theorem dX10_between_89 : decode cX10_between 89 = .ok (.iload 5, 2) := by decide +kernel
theorem dX10_between_91 : decode cX10_between 91 = .ok (.iadd, 1) := by decide +kernel
theorem dX10_between_92 : decode cX10_between 92 = .ok (.iaload, 1) := by decide +kernel
theorem dX10_between_93 : decode cX10_between 93 = .ok (.istore 7, 2) := by decide +kernel
theorem dX10_between_95 : decode cX10_between 95 = .ok (.iload 6, 2) := by decide +kernel
theorem dX10_between_97 : decode cX10_between 97 = .ok (.bipush (-4), 2) := by decide +kernel
theorem dX10_between_99 : decode cX10_between 99 = .ok (.if_icmp .eq 14, 3) := by decide +kernel
theorem dX10_between_102 : decode cX10_between 102 = .ok (.iload 7, 2) := by decide +kernel
theorem dX10_between_104 : decode cX10_between 104 = .ok (.bipush (-4), 2) := by decide +kernel
theorem dX10_between_106 : decode cX10_between 106 = .ok (.if_icmp .eq 7, 3) := by decide +kernel
theorem dX10_between_109 : decode cX10_between 109 = .ok (.iconst 1, 1) := by decide +kernel
theorem dX10_between_110 : decode cX10_between 110 = .ok (.goto 4, 3) := by decide +kernel
theorem dX10_between_113 : decode cX10_between 113 = .ok (.iconst 0, 1) := by decide +kernel
theorem dX10_between_114 : decode cX10_between 114 = .ok (.istore 8, 2) := by decide +kernel
theorem dX10_between_116 : decode cX10_between 116 = .ok (.iload_n 3, 1) := by decide +kernel
theorem dX10_between_117 : decode cX10_between 117 = .ok (.ifCond .ne 25, 3) := by decide +kernel
theorem dX10_between_120 : decode cX10_between 120 = .ok (.iload 4, 2) := by decide +kernel
theorem dX10_between_122 : decode cX10_between 122 = .ok (.iload 8, 2) := by decide +kernel
theorem dX10_between_124 : decode cX10_between 124 = .ok (.ifCond .eq 11, 3) := by decide +kernel
theorem dX10_between_127 : decode cX10_between 127 = .ok (.iload 7, 2) := by decide +kernel
theorem dX10_between_129 : decode cX10_between 129 = .ok (.iload 6, 2) := by decide +kernel
theorem dX10_between_131 : decode cX10_between 131 = .ok (.isub, 1) := by decide +kernel
theorem dX10_between_132 : decode cX10_between 132 = .ok (.goto 4, 3) := by decide +kernel
theorem dX10_between_135 : decode cX10_between 135 = .ok (.iconst 0, 1) := by decide +kernel
theorem dX10_between_136 : decode cX10_between 136 = .ok (.iadd, 1) := by decide +kernel
theorem dX10_between_137 : decode cX10_between 137 = .ok (.istore 4, 2) := by decide +kernel
theorem dX10_between_139 : decode cX10_between 139 = .ok (.goto 124, 3) := by decide +kernel
theorem dX10_between_142 : decode cX10_between 142 = .ok (.iload_n 3, 1) := by decide +kernel
theorem dX10_between_143 : decode cX10_between 143 = .ok (.iconst 1, 1) := by decide +kernel
theorem dX10_between_144 : decode cX10_between 144 = .ok (.if_icmp .ne 94, 3) := by decide +kernel
theorem dX10_between_147 : decode cX10_between 147 = .ok (.iload 7, 2) := by decide +kernel
theorem dX10_between_149 : decode cX10_between 149 = .ok (.aload_n 0, 1) := by decide +kernel
theorem dX10_between_150 : decode cX10_between 150 = .ok (.getfield 20, 3) := by decide +kernel
theorem dX10_between_153 : decode cX10_between 153 = .ok (.iload 5, 2) := by decide +kernel
theorem dX10_between_155 : decode cX10_between 155 = .ok (.iaload, 1) := by decide +kernel
theorem dX10_between_156 : decode cX10_between 156 = .ok (.aload_n 0, 1) := by decide +kernel
theorem dX10_between_157 : decode cX10_between 157 = .ok (.getfield 32, 3) := by decide +kernel
theorem dX10_between_160 : decode cX10_between 160 = .ok (.iconst 0, 1) := by decide +kernel
theorem dX10_between_161 : decode cX10_between 161 = .ok (.iaload, 1) := by decide +kernel
theorem dX10_between_162 : decode cX10_between 162 = .ok (.iadd, 1) := by decide +kernel
theorem dX10_between_163 : decode cX10_between 163 = .ok (.if_icmp .ge 8, 3) := by decide +kernel
theorem dX10_between_166 : decode cX10_between 166 = .ok (.iload 7, 2) := by decide +kernel
theorem dX10_between_168 : decode cX10_between 168 = .ok (.goto 17, 3) := by decide +kernel
theorem dX10_between_171 : decode cX10_between 171 = .ok (.aload_n 0, 1) := by decide +kernel
theorem dX10_between_172 : decode cX10_between 172 = .ok (.getfield 20, 3) := by decide +kernel
theorem dX10_between_175 : decode cX10_between 175 = .ok (.iload 5, 2) := by decide +kernel
theorem dX10_between_177 : decode cX10_between 177 = .ok (.iaload, 1) := by decide +kernel
theorem dX10_between_178 : decode cX10_between 178 = .ok (.aload_n 0, 1) := by decide +kernel
theorem dX10_between_179 : decode cX10_between 179 = .ok (.getfield 32, 3) := by decide +kernel
theorem dX10_between_182 : decode cX10_between 182 = .ok (.iconst 0, 1) := by decide +kernel
theorem dX10_between_183 : decode cX10_between 183 = .ok (.iaload, 1) := by decide +kernel
theorem dX10_between_184 : decode cX10_between 184 = .ok (.iadd, 1) := by decide +kernel
theorem dX10_between_185 : decode cX10_between 185 = .ok (.istore 9, 2) := by decide +kernel
theorem dX10_between_187 : decode cX10_between 187 = .ok (.iload 4, 2) := by decide +kernel
theorem dX10_between_189 : decode cX10_between 189 = .ok (.iload 8, 2) := by decide +kernel
theorem dX10_between_191 : decode cX10_between 191 = .ok (.ifCond .eq 40, 3) := by decide +kernel
theorem dX10_between_194 : decode cX10_between 194 = .ok (.aload_n 0, 1) := by decide +kernel
theorem dX10_between_195 : decode cX10_between 195 = .ok (.getfield 20, 3) := by decide +kernel
theorem dX10_between_198 : decode cX10_between 198 = .ok (.iload 5, 2) := by decide +kernel
theorem dX10_between_200 : decode cX10_between 200 = .ok (.iaload, 1) := by decide +kernel
theorem dX10_between_201 : decode cX10_between 201 = .ok (.ifCond .le 30, 3) := by decide +kernel
theorem dX10_between_204 : decode cX10_between 204 = .ok (.iload 7, 2) := by decide +kernel
theorem dX10_between_206 : decode cX10_between 206 = .ok (.aload_n 0, 1) := by decide +kernel
theorem dX10_between_207 : decode cX10_between 207 = .ok (.getfield 20, 3) := by decide +kernel
theorem dX10_between_210 : decode cX10_between 210 = .ok (.iload 5, 2) := by decide +kernel
theorem dX10_between_212 : decode cX10_between 212 = .ok (.iaload, 1) := by decide +kernel
theorem dX10_between_213 : decode cX10_between 213 = .ok (.if_icmp .lt 18, 3) := by decide +kernel
theorem dX10_between_216 : decode cX10_between 216 = .ok (.iload 9, 2) := by decide +kernel
theorem dX10_between_218 : decode cX10_between 218 = .ok (.iload 6, 2) := by decide +kernel
theorem dX10_between_220 : decode cX10_between 220 = .ok (.if_icmp .le 11, 3) := by decide +kernel
theorem dX10_between_223 : decode cX10_between 223 = .ok (.iload 9, 2) := by decide +kernel
theorem dX10_between_225 : decode cX10_between 225 = .ok (.iload 6, 2) := by decide +kernel
theorem dX10_between_227 : decode cX10_between 227 = .ok (.isub, 1) := by decide +kernel
theorem dX10_between_228 : decode cX10_between 228 = .ok (.goto 4, 3) := by decide +kernel
theorem dX10_between_231 : decode cX10_between 231 = .ok (.iconst 0, 1) := by decide +kernel
theorem dX10_between_232 : decode cX10_between 232 = .ok (.iadd, 1) := by decide +kernel
theorem dX10_between_233 : decode cX10_between 233 = .ok (.istore 4, 2) := by decide +kernel
theorem dX10_between_235 : decode cX10_between 235 = .ok (.goto 28, 3) := by decide +kernel
theorem dX10_between_238 : decode cX10_between 238 = .ok (.iload 4, 2) := by decide +kernel
theorem dX10_between_240 : decode cX10_between 240 = .ok (.aload_n 0, 1) := by decide +kernel
theorem dX10_between_241 : decode cX10_between 241 = .ok (.getfield 20, 3) := by decide +kernel
theorem dX10_between_244 : decode cX10_between 244 = .ok (.iload 5, 2) := by decide +kernel
theorem dX10_between_246 : decode cX10_between 246 = .ok (.iaload, 1) := by decide +kernel
theorem dX10_between_247 : decode cX10_between 247 = .ok (.ifCond .le 12, 3) := by decide +kernel
theorem dX10_between_250 : decode cX10_between 250 = .ok (.iload 8, 2) := by decide +kernel
theorem dX10_between_252 : decode cX10_between 252 = .ok (.ifCond .ne 7, 3) := by decide +kernel
theorem dX10_between_255 : decode cX10_between 255 = .ok (.iconst 1, 1) := by decide +kernel
theorem dX10_between_256 : decode cX10_between 256 = .ok (.goto 4, 3) := by decide +kernel
theorem dX10_between_259 : decode cX10_between 259 = .ok (.iconst 0, 1) := by decide +kernel
theorem dX10_between_260 : decode cX10_between 260 = .ok (.iadd, 1) := by decide +kernel
theorem dX10_between_261 : decode cX10_between 261 = .ok (.istore 4, 2) := by decide +kernel
theorem dX10_between_263 : decode cX10_between 263 = .ok (.iinc 5 1, 3) := by decide +kernel
theorem dX10_between_266 : decode cX10_between 266 = .ok (.goto (-213), 3) := by decide +kernel
theorem dX10_between_269 : decode cX10_between 269 = .ok (.iload 4, 2) := by decide +kernel
theorem dX10_between_271 : decode cX10_between 271 = .ok (.ireturn, 1) := by decide +kernel
theorem dX10_sounded_0 : decode cX10_sounded 0 = .ok (.iload_n 1, 1) := by decide +kernel
theorem dX10_sounded_1 : decode cX10_sounded 1 = .ok (.invokestatic 129, 3) := by decide +kernel
theorem dX10_sounded_4 : decode cX10_sounded 4 = .ok (.ifCond .eq 11, 3) := by decide +kernel
theorem dX10_sounded_7 : decode cX10_sounded 7 = .ok (.aload_n 0, 1) := by decide +kernel
theorem dX10_sounded_8 : decode cX10_sounded 8 = .ok (.iload_n 2, 1) := by decide +kernel
theorem dX10_sounded_9 : decode cX10_sounded 9 = .ok (.invokevirtual 97, 3) := by decide +kernel
theorem dX10_sounded_12 : decode cX10_sounded 12 = .ok (.ifCond .ne 5, 3) := by decide +kernel
theorem dX10_sounded_15 : decode cX10_sounded 15 = .ok (.iconst (-1), 1) := by decide +kernel
theorem dX10_sounded_16 : decode cX10_sounded 16 = .ok (.ireturn, 1) := by decide +kernel
theorem dX10_sounded_17 : decode cX10_sounded 17 = .ok (.aload_n 0, 1) := by decide +kernel
theorem dX10_sounded_18 : decode cX10_sounded 18 = .ok (.getfield 59, 3) := by decide +kernel
theorem dX10_sounded_21 : decode cX10_sounded 21 = .ok (.iload_n 1, 1) := by decide +kernel
theorem dX10_sounded_22 : decode cX10_sounded 22 = .ok (.baload, 1) := by decide +kernel
theorem dX10_sounded_23 : decode cX10_sounded 23 = .ok (.ifCond .eq 17, 3) := by decide +kernel
theorem dX10_sounded_26 : decode cX10_sounded 26 = .ok (.aload_n 0, 1) := by decide +kernel
theorem dX10_sounded_27 : decode cX10_sounded 27 = .ok (.getfield 63, 3) := by decide +kernel
theorem dX10_sounded_30 : decode cX10_sounded 30 = .ok (.bipush 120, 2) := by decide +kernel
theorem dX10_sounded_32 : decode cX10_sounded 32 = .ok (.iload_n 1, 1) := by decide +kernel
theorem dX10_sounded_33 : decode cX10_sounded 33 = .ok (.imul, 1) := by decide +kernel
theorem dX10_sounded_34 : decode cX10_sounded 34 = .ok (.iload_n 2, 1) := by decide +kernel
theorem dX10_sounded_35 : decode cX10_sounded 35 = .ok (.iadd, 1) := by decide +kernel
theorem dX10_sounded_36 : decode cX10_sounded 36 = .ok (.iaload, 1) := by decide +kernel
theorem dX10_sounded_37 : decode cX10_sounded 37 = .ok (.goto 5, 3) := by decide +kernel
theorem dX10_sounded_40 : decode cX10_sounded 40 = .ok (.bipush (-2), 2) := by decide +kernel
theorem dX10_sounded_42 : decode cX10_sounded 42 = .ok (.ireturn, 1) := by decide +kernel
theorem dX10_cell_0 : decode cX10_cell 0 = .ok (.aload_n 0, 1) := by decide +kernel
theorem dX10_cell_1 : decode cX10_cell 1 = .ok (.iload_n 1, 1) := by decide +kernel
theorem dX10_cell_2 : decode cX10_cell 2 = .ok (.invokevirtual 97, 3) := by decide +kernel
theorem dX10_cell_5 : decode cX10_cell 5 = .ok (.ifCond .eq 12, 3) := by decide +kernel
theorem dX10_cell_8 : decode cX10_cell 8 = .ok (.iload_n 2, 1) := by decide +kernel
theorem dX10_cell_9 : decode cX10_cell 9 = .ok (.iconst 0, 1) := by decide +kernel
theorem dX10_cell_10 : decode cX10_cell 10 = .ok (.iconst 3, 1) := by decide +kernel
theorem dX10_cell_11 : decode cX10_cell 11 = .ok (.invokestatic 69, 3) := by decide +kernel
theorem dX10_cell_14 : decode cX10_cell 14 = .ok (.ifCond .ne 5, 3) := by decide +kernel
theorem dX10_cell_17 : decode cX10_cell 17 = .ok (.iconst (-1), 1) := by decide +kernel
theorem dX10_cell_18 : decode cX10_cell 18 = .ok (.ireturn, 1) := by decide +kernel
theorem dX10_cell_19 : decode cX10_cell 19 = .ok (.iload_n 2, 1) := by decide +kernel
theorem dX10_cell_20 : decode cX10_cell 20 = .ok (.ifCond .ne 12, 3) := by decide +kernel
theorem dX10_cell_23 : decode cX10_cell 23 = .ok (.aload_n 0, 1) := by decide +kernel
theorem dX10_cell_24 : decode cX10_cell 24 = .ok (.getfield 16, 3) := by decide +kernel
theorem dX10_cell_27 : decode cX10_cell 27 = .ok (.iload_n 1, 1) := by decide +kernel
theorem dX10_cell_28 : decode cX10_cell 28 = .ok (.iaload, 1) := by decide +kernel
theorem dX10_cell_29 : decode cX10_cell 29 = .ok (.goto 37, 3) := by decide +kernel
theorem dX10_cell_32 : decode cX10_cell 32 = .ok (.iload_n 2, 1) := by decide +kernel
theorem dX10_cell_33 : decode cX10_cell 33 = .ok (.iconst 1, 1) := by decide +kernel
theorem dX10_cell_34 : decode cX10_cell 34 = .ok (.if_icmp .ne 12, 3) := by decide +kernel
theorem dX10_cell_37 : decode cX10_cell 37 = .ok (.aload_n 0, 1) := by decide +kernel
theorem dX10_cell_38 : decode cX10_cell 38 = .ok (.getfield 20, 3) := by decide +kernel
theorem dX10_cell_41 : decode cX10_cell 41 = .ok (.iload_n 1, 1) := by decide +kernel
theorem dX10_cell_42 : decode cX10_cell 42 = .ok (.iaload, 1) := by decide +kernel
theorem dX10_cell_43 : decode cX10_cell 43 = .ok (.goto 23, 3) := by decide +kernel
theorem dX10_cell_46 : decode cX10_cell 46 = .ok (.iload_n 2, 1) := by decide +kernel
theorem dX10_cell_47 : decode cX10_cell 47 = .ok (.iconst 2, 1) := by decide +kernel
theorem dX10_cell_48 : decode cX10_cell 48 = .ok (.if_icmp .ne 12, 3) := by decide +kernel
theorem dX10_cell_51 : decode cX10_cell 51 = .ok (.aload_n 0, 1) := by decide +kernel
theorem dX10_cell_52 : decode cX10_cell 52 = .ok (.getfield 23, 3) := by decide +kernel
theorem dX10_cell_55 : decode cX10_cell 55 = .ok (.iload_n 1, 1) := by decide +kernel
theorem dX10_cell_56 : decode cX10_cell 56 = .ok (.iaload, 1) := by decide +kernel
theorem dX10_cell_57 : decode cX10_cell 57 = .ok (.goto 9, 3) := by decide +kernel
theorem dX10_cell_60 : decode cX10_cell 60 = .ok (.aload_n 0, 1) := by decide +kernel
theorem dX10_cell_61 : decode cX10_cell 61 = .ok (.getfield 26, 3) := by decide +kernel
theorem dX10_cell_64 : decode cX10_cell 64 = .ok (.iload_n 1, 1) := by decide +kernel
theorem dX10_cell_65 : decode cX10_cell 65 = .ok (.iaload, 1) := by decide +kernel
theorem dX10_cell_66 : decode cX10_cell 66 = .ok (.ireturn, 1) := by decide +kernel
theorem dX10_about_0 : decode cX10_about 0 = .ok (.iload_n 1, 1) := by decide +kernel
theorem dX10_about_1 : decode cX10_about 1 = .ok (.invokestatic 101, 3) := by decide +kernel
theorem dX10_about_4 : decode cX10_about 4 = .ok (.ifCond .eq 12, 3) := by decide +kernel
theorem dX10_about_7 : decode cX10_about 7 = .ok (.iload_n 2, 1) := by decide +kernel
theorem dX10_about_8 : decode cX10_about 8 = .ok (.iconst 0, 1) := by decide +kernel
theorem dX10_about_9 : decode cX10_about 9 = .ok (.iconst 2, 1) := by decide +kernel
theorem dX10_about_10 : decode cX10_about 10 = .ok (.invokestatic 69, 3) := by decide +kernel
theorem dX10_about_13 : decode cX10_about 13 = .ok (.ifCond .ne 5, 3) := by decide +kernel
theorem dX10_about_16 : decode cX10_about 16 = .ok (.iconst (-1), 1) := by decide +kernel
theorem dX10_about_17 : decode cX10_about 17 = .ok (.ireturn, 1) := by decide +kernel
theorem dX10_about_18 : decode cX10_about 18 = .ok (.iload_n 2, 1) := by decide +kernel
theorem dX10_about_19 : decode cX10_about 19 = .ok (.ifCond .ne 12, 3) := by decide +kernel
theorem dX10_about_22 : decode cX10_about 22 = .ok (.aload_n 0, 1) := by decide +kernel
theorem dX10_about_23 : decode cX10_about 23 = .ok (.getfield 44, 3) := by decide +kernel
theorem dX10_about_26 : decode cX10_about 26 = .ok (.iload_n 1, 1) := by decide +kernel
theorem dX10_about_27 : decode cX10_about 27 = .ok (.iaload, 1) := by decide +kernel
theorem dX10_about_28 : decode cX10_about 28 = .ok (.goto 23, 3) := by decide +kernel
theorem dX10_about_31 : decode cX10_about 31 = .ok (.iload_n 2, 1) := by decide +kernel
theorem dX10_about_32 : decode cX10_about 32 = .ok (.iconst 1, 1) := by decide +kernel
theorem dX10_about_33 : decode cX10_about 33 = .ok (.if_icmp .ne 12, 3) := by decide +kernel
theorem dX10_about_36 : decode cX10_about 36 = .ok (.aload_n 0, 1) := by decide +kernel
theorem dX10_about_37 : decode cX10_about 37 = .ok (.getfield 38, 3) := by decide +kernel
theorem dX10_about_40 : decode cX10_about 40 = .ok (.iload_n 1, 1) := by decide +kernel
theorem dX10_about_41 : decode cX10_about 41 = .ok (.iaload, 1) := by decide +kernel
theorem dX10_about_42 : decode cX10_about 42 = .ok (.goto 9, 3) := by decide +kernel
theorem dX10_about_45 : decode cX10_about 45 = .ok (.aload_n 0, 1) := by decide +kernel
theorem dX10_about_46 : decode cX10_about 46 = .ok (.getfield 41, 3) := by decide +kernel
theorem dX10_about_49 : decode cX10_about 49 = .ok (.iload_n 1, 1) := by decide +kernel
theorem dX10_about_50 : decode cX10_about 50 = .ok (.iaload, 1) := by decide +kernel
theorem dX10_about_51 : decode cX10_about 51 = .ok (.ireturn, 1) := by decide +kernel
theorem dX10_broken_0 : decode cX10_broken 0 = .ok (.iload_n 1, 1) := by decide +kernel
theorem dX10_broken_1 : decode cX10_broken 1 = .ok (.iconst 0, 1) := by decide +kernel
theorem dX10_broken_2 : decode cX10_broken 2 = .ok (.aload_n 0, 1) := by decide +kernel
theorem dX10_broken_3 : decode cX10_broken 3 = .ok (.getfield 73, 3) := by decide +kernel
theorem dX10_broken_6 : decode cX10_broken 6 = .ok (.iconst 1, 1) := by decide +kernel
theorem dX10_broken_7 : decode cX10_broken 7 = .ok (.isub, 1) := by decide +kernel
theorem dX10_broken_8 : decode cX10_broken 8 = .ok (.invokestatic 69, 3) := by decide +kernel
theorem dX10_broken_11 : decode cX10_broken 11 = .ok (.ifCond .eq 12, 3) := by decide +kernel
theorem dX10_broken_14 : decode cX10_broken 14 = .ok (.aload_n 0, 1) := by decide +kernel
theorem dX10_broken_15 : decode cX10_broken 15 = .ok (.getfield 56, 3) := by decide +kernel
theorem dX10_broken_18 : decode cX10_broken 18 = .ok (.iload_n 1, 1) := by decide +kernel
theorem dX10_broken_19 : decode cX10_broken 19 = .ok (.iaload, 1) := by decide +kernel
theorem dX10_broken_20 : decode cX10_broken 20 = .ok (.goto 4, 3) := by decide +kernel
theorem dX10_broken_23 : decode cX10_broken 23 = .ok (.iconst (-1), 1) := by decide +kernel
theorem dX10_broken_24 : decode cX10_broken 24 = .ok (.ireturn, 1) := by decide +kernel
theorem dX10_undone_0 : decode cX10_undone 0 = .ok (.iconst 0, 1) := by decide +kernel
theorem dX10_undone_1 : decode cX10_undone 1 = .ok (.istore_n 1, 1) := by decide +kernel
theorem dX10_undone_2 : decode cX10_undone 2 = .ok (.iconst 0, 1) := by decide +kernel
theorem dX10_undone_3 : decode cX10_undone 3 = .ok (.istore_n 2, 1) := by decide +kernel
theorem dX10_undone_4 : decode cX10_undone 4 = .ok (.iload_n 2, 1) := by decide +kernel
theorem dX10_undone_5 : decode cX10_undone 5 = .ok (.aload_n 0, 1) := by decide +kernel
theorem dX10_undone_6 : decode cX10_undone 6 = .ok (.getfield 7, 3) := by decide +kernel
theorem dX10_undone_9 : decode cX10_undone 9 = .ok (.aload_n 0, 1) := by decide +kernel
theorem dX10_undone_10 : decode cX10_undone 10 = .ok (.getfield 13, 3) := by decide +kernel
theorem dX10_undone_13 : decode cX10_undone 13 = .ok (.imul, 1) := by decide +kernel
theorem dX10_undone_14 : decode cX10_undone 14 = .ok (.if_icmp .ge 41, 3) := by decide +kernel
theorem dX10_undone_17 : decode cX10_undone 17 = .ok (.iload_n 1, 1) := by decide +kernel
theorem dX10_undone_18 : decode cX10_undone 18 = .ok (.aload_n 0, 1) := by decide +kernel
theorem dX10_undone_19 : decode cX10_undone 19 = .ok (.getfield 20, 3) := by decide +kernel
theorem dX10_undone_22 : decode cX10_undone 22 = .ok (.iload_n 2, 1) := by decide +kernel
theorem dX10_undone_23 : decode cX10_undone 23 = .ok (.iaload, 1) := by decide +kernel
theorem dX10_undone_24 : decode cX10_undone 24 = .ok (.ifCond .le 22, 3) := by decide +kernel
theorem dX10_undone_27 : decode cX10_undone 27 = .ok (.aload_n 0, 1) := by decide +kernel
theorem dX10_undone_28 : decode cX10_undone 28 = .ok (.getfield 16, 3) := by decide +kernel
theorem dX10_undone_31 : decode cX10_undone 31 = .ok (.iload_n 2, 1) := by decide +kernel
theorem dX10_undone_32 : decode cX10_undone 32 = .ok (.iaload, 1) := by decide +kernel
theorem dX10_undone_33 : decode cX10_undone 33 = .ok (.aload_n 0, 1) := by decide +kernel
theorem dX10_undone_34 : decode cX10_undone 34 = .ok (.getfield 20, 3) := by decide +kernel
theorem dX10_undone_37 : decode cX10_undone 37 = .ok (.iload_n 2, 1) := by decide +kernel
theorem dX10_undone_38 : decode cX10_undone 38 = .ok (.iaload, 1) := by decide +kernel
theorem dX10_undone_39 : decode cX10_undone 39 = .ok (.if_icmp .ge 7, 3) := by decide +kernel
theorem dX10_undone_42 : decode cX10_undone 42 = .ok (.iconst 1, 1) := by decide +kernel
theorem dX10_undone_43 : decode cX10_undone 43 = .ok (.goto 4, 3) := by decide +kernel
theorem dX10_undone_46 : decode cX10_undone 46 = .ok (.iconst 0, 1) := by decide +kernel
theorem dX10_undone_47 : decode cX10_undone 47 = .ok (.iadd, 1) := by decide +kernel
theorem dX10_undone_48 : decode cX10_undone 48 = .ok (.istore_n 1, 1) := by decide +kernel
theorem dX10_undone_49 : decode cX10_undone 49 = .ok (.iinc 2 1, 3) := by decide +kernel
theorem dX10_undone_52 : decode cX10_undone 52 = .ok (.goto (-48), 3) := by decide +kernel
theorem dX10_undone_55 : decode cX10_undone 55 = .ok (.iload_n 1, 1) := by decide +kernel
theorem dX10_undone_56 : decode cX10_undone 56 = .ok (.ireturn, 1) := by decide +kernel
theorem dX10_count_0 : decode cX10_count 0 = .ok (.iload_n 1, 1) := by decide +kernel
theorem dX10_count_1 : decode cX10_count 1 = .ok (.tableswitch 114 0 10 #[59, 64, 69, 74, 79, 84, 89, 94, 99, 104, 109], 59) := by decide +kernel
theorem dX10_count_60 : decode cX10_count 60 = .ok (.aload_n 0, 1) := by decide +kernel
theorem dX10_count_61 : decode cX10_count 61 = .ok (.getfield 7, 3) := by decide +kernel
theorem dX10_count_64 : decode cX10_count 64 = .ok (.ireturn, 1) := by decide +kernel
theorem dX10_count_65 : decode cX10_count 65 = .ok (.aload_n 0, 1) := by decide +kernel
theorem dX10_count_66 : decode cX10_count 66 = .ok (.getfield 13, 3) := by decide +kernel
theorem dX10_count_69 : decode cX10_count 69 = .ok (.ireturn, 1) := by decide +kernel
theorem dX10_count_70 : decode cX10_count 70 = .ok (.aload_n 0, 1) := by decide +kernel
theorem dX10_count_71 : decode cX10_count 71 = .ok (.getfield 76, 3) := by decide +kernel
theorem dX10_count_74 : decode cX10_count 74 = .ok (.ireturn, 1) := by decide +kernel
theorem dX10_count_75 : decode cX10_count 75 = .ok (.aload_n 0, 1) := by decide +kernel
theorem dX10_count_76 : decode cX10_count 76 = .ok (.getfield 79, 3) := by decide +kernel
theorem dX10_count_79 : decode cX10_count 79 = .ok (.ireturn, 1) := by decide +kernel
theorem dX10_count_80 : decode cX10_count 80 = .ok (.aload_n 0, 1) := by decide +kernel
theorem dX10_count_81 : decode cX10_count 81 = .ok (.getfield 82, 3) := by decide +kernel
theorem dX10_count_84 : decode cX10_count 84 = .ok (.ireturn, 1) := by decide +kernel
theorem dX10_count_85 : decode cX10_count 85 = .ok (.aload_n 0, 1) := by decide +kernel
theorem dX10_count_86 : decode cX10_count 86 = .ok (.getfield 85, 3) := by decide +kernel
theorem dX10_count_89 : decode cX10_count 89 = .ok (.ireturn, 1) := by decide +kernel
theorem dX10_count_90 : decode cX10_count 90 = .ok (.aload_n 0, 1) := by decide +kernel
theorem dX10_count_91 : decode cX10_count 91 = .ok (.getfield 88, 3) := by decide +kernel
theorem dX10_count_94 : decode cX10_count 94 = .ok (.ireturn, 1) := by decide +kernel
theorem dX10_count_95 : decode cX10_count 95 = .ok (.aload_n 0, 1) := by decide +kernel
theorem dX10_count_96 : decode cX10_count 96 = .ok (.getfield 91, 3) := by decide +kernel
theorem dX10_count_99 : decode cX10_count 99 = .ok (.ireturn, 1) := by decide +kernel
theorem dX10_count_100 : decode cX10_count 100 = .ok (.aload_n 0, 1) := by decide +kernel
theorem dX10_count_101 : decode cX10_count 101 = .ok (.getfield 94, 3) := by decide +kernel
theorem dX10_count_104 : decode cX10_count 104 = .ok (.ireturn, 1) := by decide +kernel
theorem dX10_count_105 : decode cX10_count 105 = .ok (.aload_n 0, 1) := by decide +kernel
theorem dX10_count_106 : decode cX10_count 106 = .ok (.invokevirtual 134, 3) := by decide +kernel
theorem dX10_count_109 : decode cX10_count 109 = .ok (.ireturn, 1) := by decide +kernel
theorem dX10_count_110 : decode cX10_count 110 = .ok (.aload_n 0, 1) := by decide +kernel
theorem dX10_count_111 : decode cX10_count 111 = .ok (.getfield 73, 3) := by decide +kernel
theorem dX10_count_114 : decode cX10_count 114 = .ok (.ireturn, 1) := by decide +kernel
theorem dX10_count_115 : decode cX10_count 115 = .ok (.iconst (-1), 1) := by decide +kernel
theorem dX10_count_116 : decode cX10_count 116 = .ok (.ireturn, 1) := by decide +kernel
theorem dL_law_0 : decode cL_law 0 = .ok (.new 7, 3) := by decide +kernel
theorem dL_law_3 : decode cL_law 3 = .ok (.dup, 1) := by decide +kernel
theorem dL_law_4 : decode cL_law 4 = .ok (.invokespecial 9, 3) := by decide +kernel
theorem dL_law_7 : decode cL_law 7 = .ok (.astore_n 1, 1) := by decide +kernel
theorem dL_law_8 : decode cL_law 8 = .ok (.new 10, 3) := by decide +kernel
theorem dL_law_11 : decode cL_law 11 = .ok (.dup, 1) := by decide +kernel
theorem dL_law_12 : decode cL_law 12 = .ok (.invokespecial 12, 3) := by decide +kernel
theorem dL_law_15 : decode cL_law 15 = .ok (.astore_n 2, 1) := by decide +kernel
theorem dL_law_16 : decode cL_law 16 = .ok (.iconst 0, 1) := by decide +kernel
theorem dL_law_17 : decode cL_law 17 = .ok (.istore_n 3, 1) := by decide +kernel
theorem dL_law_18 : decode cL_law 18 = .ok (.iload_n 3, 1) := by decide +kernel
theorem dL_law_19 : decode cL_law 19 = .ok (.aload_n 0, 1) := by decide +kernel
theorem dL_law_20 : decode cL_law 20 = .ok (.arraylength, 1) := by decide +kernel
theorem dL_law_21 : decode cL_law 21 = .ok (.bipush 6, 2) := by decide +kernel
theorem dL_law_23 : decode cL_law 23 = .ok (.isub, 1) := by decide +kernel
theorem dL_law_24 : decode cL_law 24 = .ok (.if_icmp .gt 743, 3) := by decide +kernel
theorem dL_law_27 : decode cL_law 27 = .ok (.aload_n 0, 1) := by decide +kernel
theorem dL_law_28 : decode cL_law 28 = .ok (.iload_n 3, 1) := by decide +kernel
theorem dL_law_29 : decode cL_law 29 = .ok (.iaload, 1) := by decide +kernel
theorem dL_law_30 : decode cL_law 30 = .ok (.bipush 31, 2) := by decide +kernel
theorem dL_law_32 : decode cL_law 32 = .ok (.iand, 1) := by decide +kernel
theorem dL_law_33 : decode cL_law 33 = .ok (.tableswitch 728 0 18 #[91, 124, 167, 200, 233, 266, 309, 342, 365, 428, 451, 474, 507, 540, 583, 616, 649, 682, 705], 91) := by decide +kernel
theorem dL_law_124 : decode cL_law 124 = .ok (.aload_n 1, 1) := by decide +kernel
theorem dL_law_125 : decode cL_law 125 = .ok (.aload_n 0, 1) := by decide +kernel
theorem dL_law_126 : decode cL_law 126 = .ok (.iload_n 3, 1) := by decide +kernel
theorem dL_law_127 : decode cL_law 127 = .ok (.iconst 1, 1) := by decide +kernel
theorem dL_law_128 : decode cL_law 128 = .ok (.iadd, 1) := by decide +kernel
theorem dL_law_129 : decode cL_law 129 = .ok (.iaload, 1) := by decide +kernel
theorem dL_law_130 : decode cL_law 130 = .ok (.aload_n 0, 1) := by decide +kernel
theorem dL_law_131 : decode cL_law 131 = .ok (.iload_n 3, 1) := by decide +kernel
theorem dL_law_132 : decode cL_law 132 = .ok (.iconst 2, 1) := by decide +kernel
theorem dL_law_133 : decode cL_law 133 = .ok (.iadd, 1) := by decide +kernel
theorem dL_law_134 : decode cL_law 134 = .ok (.iaload, 1) := by decide +kernel
theorem dL_law_135 : decode cL_law 135 = .ok (.invokevirtual 13, 3) := by decide +kernel
theorem dL_law_138 : decode cL_law 138 = .ok (.aload_n 2, 1) := by decide +kernel
theorem dL_law_139 : decode cL_law 139 = .ok (.aload_n 0, 1) := by decide +kernel
theorem dL_law_140 : decode cL_law 140 = .ok (.iload_n 3, 1) := by decide +kernel
theorem dL_law_141 : decode cL_law 141 = .ok (.iconst 1, 1) := by decide +kernel
theorem dL_law_142 : decode cL_law 142 = .ok (.iadd, 1) := by decide +kernel
theorem dL_law_143 : decode cL_law 143 = .ok (.iaload, 1) := by decide +kernel
theorem dL_law_144 : decode cL_law 144 = .ok (.aload_n 0, 1) := by decide +kernel
theorem dL_law_145 : decode cL_law 145 = .ok (.iload_n 3, 1) := by decide +kernel
theorem dL_law_146 : decode cL_law 146 = .ok (.iconst 2, 1) := by decide +kernel
theorem dL_law_147 : decode cL_law 147 = .ok (.iadd, 1) := by decide +kernel
theorem dL_law_148 : decode cL_law 148 = .ok (.iaload, 1) := by decide +kernel
theorem dL_law_149 : decode cL_law 149 = .ok (.invokevirtual 17, 3) := by decide +kernel
theorem dL_law_152 : decode cL_law 152 = .ok (.if_icmp .eq 609, 3) := by decide +kernel
theorem dL_law_155 : decode cL_law 155 = .ok (.iconst 0, 1) := by decide +kernel
theorem dL_law_156 : decode cL_law 156 = .ok (.ireturn, 1) := by decide +kernel
theorem dL_law_157 : decode cL_law 157 = .ok (.aload_n 1, 1) := by decide +kernel
theorem dL_law_158 : decode cL_law 158 = .ok (.aload_n 0, 1) := by decide +kernel
theorem dL_law_159 : decode cL_law 159 = .ok (.iload_n 3, 1) := by decide +kernel
theorem dL_law_160 : decode cL_law 160 = .ok (.iconst 1, 1) := by decide +kernel
theorem dL_law_161 : decode cL_law 161 = .ok (.iadd, 1) := by decide +kernel
theorem dL_law_162 : decode cL_law 162 = .ok (.iaload, 1) := by decide +kernel
theorem dL_law_163 : decode cL_law 163 = .ok (.aload_n 0, 1) := by decide +kernel
theorem dL_law_164 : decode cL_law 164 = .ok (.iload_n 3, 1) := by decide +kernel
theorem dL_law_165 : decode cL_law 165 = .ok (.iconst 2, 1) := by decide +kernel
theorem dL_law_166 : decode cL_law 166 = .ok (.iadd, 1) := by decide +kernel
theorem dL_law_167 : decode cL_law 167 = .ok (.iaload, 1) := by decide +kernel
theorem dL_law_168 : decode cL_law 168 = .ok (.aload_n 0, 1) := by decide +kernel
theorem dL_law_169 : decode cL_law 169 = .ok (.iload_n 3, 1) := by decide +kernel
theorem dL_law_170 : decode cL_law 170 = .ok (.iconst 3, 1) := by decide +kernel
theorem dL_law_171 : decode cL_law 171 = .ok (.iadd, 1) := by decide +kernel
theorem dL_law_172 : decode cL_law 172 = .ok (.iaload, 1) := by decide +kernel
theorem dL_law_173 : decode cL_law 173 = .ok (.invokevirtual 18, 3) := by decide +kernel
theorem dL_law_176 : decode cL_law 176 = .ok (.aload_n 2, 1) := by decide +kernel
theorem dL_law_177 : decode cL_law 177 = .ok (.aload_n 0, 1) := by decide +kernel
theorem dL_law_178 : decode cL_law 178 = .ok (.iload_n 3, 1) := by decide +kernel
theorem dL_law_179 : decode cL_law 179 = .ok (.iconst 1, 1) := by decide +kernel
theorem dL_law_180 : decode cL_law 180 = .ok (.iadd, 1) := by decide +kernel
theorem dL_law_181 : decode cL_law 181 = .ok (.iaload, 1) := by decide +kernel
theorem dL_law_182 : decode cL_law 182 = .ok (.aload_n 0, 1) := by decide +kernel
theorem dL_law_183 : decode cL_law 183 = .ok (.iload_n 3, 1) := by decide +kernel
theorem dL_law_184 : decode cL_law 184 = .ok (.iconst 2, 1) := by decide +kernel
theorem dL_law_185 : decode cL_law 185 = .ok (.iadd, 1) := by decide +kernel
theorem dL_law_186 : decode cL_law 186 = .ok (.iaload, 1) := by decide +kernel
theorem dL_law_187 : decode cL_law 187 = .ok (.aload_n 0, 1) := by decide +kernel
theorem dL_law_188 : decode cL_law 188 = .ok (.iload_n 3, 1) := by decide +kernel
theorem dL_law_189 : decode cL_law 189 = .ok (.iconst 3, 1) := by decide +kernel
theorem dL_law_190 : decode cL_law 190 = .ok (.iadd, 1) := by decide +kernel
theorem dL_law_191 : decode cL_law 191 = .ok (.iaload, 1) := by decide +kernel
theorem dL_law_192 : decode cL_law 192 = .ok (.invokevirtual 22, 3) := by decide +kernel
theorem dL_law_195 : decode cL_law 195 = .ok (.if_icmp .eq 566, 3) := by decide +kernel
theorem dL_law_198 : decode cL_law 198 = .ok (.iconst 0, 1) := by decide +kernel
theorem dL_law_199 : decode cL_law 199 = .ok (.ireturn, 1) := by decide +kernel
theorem dL_law_200 : decode cL_law 200 = .ok (.aload_n 1, 1) := by decide +kernel
theorem dL_law_201 : decode cL_law 201 = .ok (.aload_n 0, 1) := by decide +kernel
theorem dL_law_202 : decode cL_law 202 = .ok (.iload_n 3, 1) := by decide +kernel
theorem dL_law_203 : decode cL_law 203 = .ok (.iconst 1, 1) := by decide +kernel
theorem dL_law_204 : decode cL_law 204 = .ok (.iadd, 1) := by decide +kernel
theorem dL_law_205 : decode cL_law 205 = .ok (.iaload, 1) := by decide +kernel
theorem dL_law_206 : decode cL_law 206 = .ok (.aload_n 0, 1) := by decide +kernel
theorem dL_law_207 : decode cL_law 207 = .ok (.iload_n 3, 1) := by decide +kernel
theorem dL_law_208 : decode cL_law 208 = .ok (.iconst 2, 1) := by decide +kernel
theorem dL_law_209 : decode cL_law 209 = .ok (.iadd, 1) := by decide +kernel
theorem dL_law_210 : decode cL_law 210 = .ok (.iaload, 1) := by decide +kernel
theorem dL_law_211 : decode cL_law 211 = .ok (.invokevirtual 23, 3) := by decide +kernel
theorem dL_law_214 : decode cL_law 214 = .ok (.aload_n 2, 1) := by decide +kernel
theorem dL_law_215 : decode cL_law 215 = .ok (.aload_n 0, 1) := by decide +kernel
theorem dL_law_216 : decode cL_law 216 = .ok (.iload_n 3, 1) := by decide +kernel
theorem dL_law_217 : decode cL_law 217 = .ok (.iconst 1, 1) := by decide +kernel
theorem dL_law_218 : decode cL_law 218 = .ok (.iadd, 1) := by decide +kernel
theorem dL_law_219 : decode cL_law 219 = .ok (.iaload, 1) := by decide +kernel
theorem dL_law_220 : decode cL_law 220 = .ok (.aload_n 0, 1) := by decide +kernel
theorem dL_law_221 : decode cL_law 221 = .ok (.iload_n 3, 1) := by decide +kernel
theorem dL_law_222 : decode cL_law 222 = .ok (.iconst 2, 1) := by decide +kernel
theorem dL_law_223 : decode cL_law 223 = .ok (.iadd, 1) := by decide +kernel
theorem dL_law_224 : decode cL_law 224 = .ok (.iaload, 1) := by decide +kernel
theorem dL_law_225 : decode cL_law 225 = .ok (.invokevirtual 26, 3) := by decide +kernel
theorem dL_law_228 : decode cL_law 228 = .ok (.if_icmp .eq 533, 3) := by decide +kernel
theorem dL_law_231 : decode cL_law 231 = .ok (.iconst 0, 1) := by decide +kernel
theorem dL_law_232 : decode cL_law 232 = .ok (.ireturn, 1) := by decide +kernel
theorem dL_law_233 : decode cL_law 233 = .ok (.aload_n 1, 1) := by decide +kernel
theorem dL_law_234 : decode cL_law 234 = .ok (.aload_n 0, 1) := by decide +kernel
theorem dL_law_235 : decode cL_law 235 = .ok (.iload_n 3, 1) := by decide +kernel
theorem dL_law_236 : decode cL_law 236 = .ok (.iconst 1, 1) := by decide +kernel
theorem dL_law_237 : decode cL_law 237 = .ok (.iadd, 1) := by decide +kernel
theorem dL_law_238 : decode cL_law 238 = .ok (.iaload, 1) := by decide +kernel
theorem dL_law_239 : decode cL_law 239 = .ok (.aload_n 0, 1) := by decide +kernel
theorem dL_law_240 : decode cL_law 240 = .ok (.iload_n 3, 1) := by decide +kernel
theorem dL_law_241 : decode cL_law 241 = .ok (.iconst 2, 1) := by decide +kernel
theorem dL_law_242 : decode cL_law 242 = .ok (.iadd, 1) := by decide +kernel
theorem dL_law_243 : decode cL_law 243 = .ok (.iaload, 1) := by decide +kernel
theorem dL_law_244 : decode cL_law 244 = .ok (.invokevirtual 27, 3) := by decide +kernel
theorem dL_law_247 : decode cL_law 247 = .ok (.aload_n 2, 1) := by decide +kernel
theorem dL_law_248 : decode cL_law 248 = .ok (.aload_n 0, 1) := by decide +kernel
theorem dL_law_249 : decode cL_law 249 = .ok (.iload_n 3, 1) := by decide +kernel
theorem dL_law_250 : decode cL_law 250 = .ok (.iconst 1, 1) := by decide +kernel
theorem dL_law_251 : decode cL_law 251 = .ok (.iadd, 1) := by decide +kernel
theorem dL_law_252 : decode cL_law 252 = .ok (.iaload, 1) := by decide +kernel
theorem dL_law_253 : decode cL_law 253 = .ok (.aload_n 0, 1) := by decide +kernel
theorem dL_law_254 : decode cL_law 254 = .ok (.iload_n 3, 1) := by decide +kernel
theorem dL_law_255 : decode cL_law 255 = .ok (.iconst 2, 1) := by decide +kernel
theorem dL_law_256 : decode cL_law 256 = .ok (.iadd, 1) := by decide +kernel
theorem dL_law_257 : decode cL_law 257 = .ok (.iaload, 1) := by decide +kernel
theorem dL_law_258 : decode cL_law 258 = .ok (.invokevirtual 30, 3) := by decide +kernel
theorem dL_law_261 : decode cL_law 261 = .ok (.if_icmp .eq 500, 3) := by decide +kernel
theorem dL_law_264 : decode cL_law 264 = .ok (.iconst 0, 1) := by decide +kernel
theorem dL_law_265 : decode cL_law 265 = .ok (.ireturn, 1) := by decide +kernel
theorem dL_law_266 : decode cL_law 266 = .ok (.aload_n 1, 1) := by decide +kernel
theorem dL_law_267 : decode cL_law 267 = .ok (.aload_n 0, 1) := by decide +kernel
theorem dL_law_268 : decode cL_law 268 = .ok (.iload_n 3, 1) := by decide +kernel
theorem dL_law_269 : decode cL_law 269 = .ok (.iconst 1, 1) := by decide +kernel
theorem dL_law_270 : decode cL_law 270 = .ok (.iadd, 1) := by decide +kernel
theorem dL_law_271 : decode cL_law 271 = .ok (.iaload, 1) := by decide +kernel
theorem dL_law_272 : decode cL_law 272 = .ok (.aload_n 0, 1) := by decide +kernel
theorem dL_law_273 : decode cL_law 273 = .ok (.iload_n 3, 1) := by decide +kernel
theorem dL_law_274 : decode cL_law 274 = .ok (.iconst 2, 1) := by decide +kernel
theorem dL_law_275 : decode cL_law 275 = .ok (.iadd, 1) := by decide +kernel
theorem dL_law_276 : decode cL_law 276 = .ok (.iaload, 1) := by decide +kernel
theorem dL_law_277 : decode cL_law 277 = .ok (.invokevirtual 31, 3) := by decide +kernel
theorem dL_law_280 : decode cL_law 280 = .ok (.aload_n 2, 1) := by decide +kernel
theorem dL_law_281 : decode cL_law 281 = .ok (.aload_n 0, 1) := by decide +kernel
theorem dL_law_282 : decode cL_law 282 = .ok (.iload_n 3, 1) := by decide +kernel
theorem dL_law_283 : decode cL_law 283 = .ok (.iconst 1, 1) := by decide +kernel
theorem dL_law_284 : decode cL_law 284 = .ok (.iadd, 1) := by decide +kernel
theorem dL_law_285 : decode cL_law 285 = .ok (.iaload, 1) := by decide +kernel
theorem dL_law_286 : decode cL_law 286 = .ok (.aload_n 0, 1) := by decide +kernel
theorem dL_law_287 : decode cL_law 287 = .ok (.iload_n 3, 1) := by decide +kernel
theorem dL_law_288 : decode cL_law 288 = .ok (.iconst 2, 1) := by decide +kernel
theorem dL_law_289 : decode cL_law 289 = .ok (.iadd, 1) := by decide +kernel
theorem dL_law_290 : decode cL_law 290 = .ok (.iaload, 1) := by decide +kernel
theorem dL_law_291 : decode cL_law 291 = .ok (.invokevirtual 34, 3) := by decide +kernel
theorem dL_law_294 : decode cL_law 294 = .ok (.if_icmp .eq 467, 3) := by decide +kernel
theorem dL_law_297 : decode cL_law 297 = .ok (.iconst 0, 1) := by decide +kernel
theorem dL_law_298 : decode cL_law 298 = .ok (.ireturn, 1) := by decide +kernel
theorem dL_law_299 : decode cL_law 299 = .ok (.aload_n 1, 1) := by decide +kernel
theorem dL_law_300 : decode cL_law 300 = .ok (.aload_n 0, 1) := by decide +kernel
theorem dL_law_301 : decode cL_law 301 = .ok (.iload_n 3, 1) := by decide +kernel
theorem dL_law_302 : decode cL_law 302 = .ok (.iconst 1, 1) := by decide +kernel
theorem dL_law_303 : decode cL_law 303 = .ok (.iadd, 1) := by decide +kernel
theorem dL_law_304 : decode cL_law 304 = .ok (.iaload, 1) := by decide +kernel
theorem dL_law_305 : decode cL_law 305 = .ok (.aload_n 0, 1) := by decide +kernel
theorem dL_law_306 : decode cL_law 306 = .ok (.iload_n 3, 1) := by decide +kernel
theorem dL_law_307 : decode cL_law 307 = .ok (.iconst 2, 1) := by decide +kernel
theorem dL_law_308 : decode cL_law 308 = .ok (.iadd, 1) := by decide +kernel
theorem dL_law_309 : decode cL_law 309 = .ok (.iaload, 1) := by decide +kernel
theorem dL_law_310 : decode cL_law 310 = .ok (.aload_n 0, 1) := by decide +kernel
theorem dL_law_311 : decode cL_law 311 = .ok (.iload_n 3, 1) := by decide +kernel
theorem dL_law_312 : decode cL_law 312 = .ok (.iconst 3, 1) := by decide +kernel
theorem dL_law_313 : decode cL_law 313 = .ok (.iadd, 1) := by decide +kernel
theorem dL_law_314 : decode cL_law 314 = .ok (.iaload, 1) := by decide +kernel
theorem dL_law_315 : decode cL_law 315 = .ok (.invokevirtual 35, 3) := by decide +kernel
theorem dL_law_318 : decode cL_law 318 = .ok (.aload_n 2, 1) := by decide +kernel
theorem dL_law_319 : decode cL_law 319 = .ok (.aload_n 0, 1) := by decide +kernel
theorem dL_law_320 : decode cL_law 320 = .ok (.iload_n 3, 1) := by decide +kernel
theorem dL_law_321 : decode cL_law 321 = .ok (.iconst 1, 1) := by decide +kernel
theorem dL_law_322 : decode cL_law 322 = .ok (.iadd, 1) := by decide +kernel
theorem dL_law_323 : decode cL_law 323 = .ok (.iaload, 1) := by decide +kernel
theorem dL_law_324 : decode cL_law 324 = .ok (.aload_n 0, 1) := by decide +kernel
theorem dL_law_325 : decode cL_law 325 = .ok (.iload_n 3, 1) := by decide +kernel
theorem dL_law_326 : decode cL_law 326 = .ok (.iconst 2, 1) := by decide +kernel
theorem dL_law_327 : decode cL_law 327 = .ok (.iadd, 1) := by decide +kernel
theorem dL_law_328 : decode cL_law 328 = .ok (.iaload, 1) := by decide +kernel
theorem dL_law_329 : decode cL_law 329 = .ok (.aload_n 0, 1) := by decide +kernel
theorem dL_law_330 : decode cL_law 330 = .ok (.iload_n 3, 1) := by decide +kernel
theorem dL_law_331 : decode cL_law 331 = .ok (.iconst 3, 1) := by decide +kernel
theorem dL_law_332 : decode cL_law 332 = .ok (.iadd, 1) := by decide +kernel
theorem dL_law_333 : decode cL_law 333 = .ok (.iaload, 1) := by decide +kernel
theorem dL_law_334 : decode cL_law 334 = .ok (.invokevirtual 38, 3) := by decide +kernel
theorem dL_law_337 : decode cL_law 337 = .ok (.if_icmp .eq 424, 3) := by decide +kernel
theorem dL_law_340 : decode cL_law 340 = .ok (.iconst 0, 1) := by decide +kernel
theorem dL_law_341 : decode cL_law 341 = .ok (.ireturn, 1) := by decide +kernel
theorem dL_law_342 : decode cL_law 342 = .ok (.aload_n 1, 1) := by decide +kernel
theorem dL_law_343 : decode cL_law 343 = .ok (.aload_n 0, 1) := by decide +kernel
theorem dL_law_344 : decode cL_law 344 = .ok (.iload_n 3, 1) := by decide +kernel
theorem dL_law_345 : decode cL_law 345 = .ok (.iconst 1, 1) := by decide +kernel
theorem dL_law_346 : decode cL_law 346 = .ok (.iadd, 1) := by decide +kernel
theorem dL_law_347 : decode cL_law 347 = .ok (.iaload, 1) := by decide +kernel
theorem dL_law_348 : decode cL_law 348 = .ok (.aload_n 0, 1) := by decide +kernel
theorem dL_law_349 : decode cL_law 349 = .ok (.iload_n 3, 1) := by decide +kernel
theorem dL_law_350 : decode cL_law 350 = .ok (.iconst 2, 1) := by decide +kernel
theorem dL_law_351 : decode cL_law 351 = .ok (.iadd, 1) := by decide +kernel
theorem dL_law_352 : decode cL_law 352 = .ok (.iaload, 1) := by decide +kernel
theorem dL_law_353 : decode cL_law 353 = .ok (.invokevirtual 39, 3) := by decide +kernel
theorem dL_law_356 : decode cL_law 356 = .ok (.aload_n 2, 1) := by decide +kernel
theorem dL_law_357 : decode cL_law 357 = .ok (.aload_n 0, 1) := by decide +kernel
theorem dL_law_358 : decode cL_law 358 = .ok (.iload_n 3, 1) := by decide +kernel
theorem dL_law_359 : decode cL_law 359 = .ok (.iconst 1, 1) := by decide +kernel
theorem dL_law_360 : decode cL_law 360 = .ok (.iadd, 1) := by decide +kernel
theorem dL_law_361 : decode cL_law 361 = .ok (.iaload, 1) := by decide +kernel
theorem dL_law_362 : decode cL_law 362 = .ok (.aload_n 0, 1) := by decide +kernel
theorem dL_law_363 : decode cL_law 363 = .ok (.iload_n 3, 1) := by decide +kernel
theorem dL_law_364 : decode cL_law 364 = .ok (.iconst 2, 1) := by decide +kernel
theorem dL_law_365 : decode cL_law 365 = .ok (.iadd, 1) := by decide +kernel
theorem dL_law_366 : decode cL_law 366 = .ok (.iaload, 1) := by decide +kernel
theorem dL_law_367 : decode cL_law 367 = .ok (.invokevirtual 42, 3) := by decide +kernel
theorem dL_law_370 : decode cL_law 370 = .ok (.if_icmp .eq 391, 3) := by decide +kernel
theorem dL_law_373 : decode cL_law 373 = .ok (.iconst 0, 1) := by decide +kernel
theorem dL_law_374 : decode cL_law 374 = .ok (.ireturn, 1) := by decide +kernel
theorem dL_law_375 : decode cL_law 375 = .ok (.aload_n 1, 1) := by decide +kernel
theorem dL_law_376 : decode cL_law 376 = .ok (.aload_n 0, 1) := by decide +kernel
theorem dL_law_377 : decode cL_law 377 = .ok (.iload_n 3, 1) := by decide +kernel
theorem dL_law_378 : decode cL_law 378 = .ok (.iconst 1, 1) := by decide +kernel
theorem dL_law_379 : decode cL_law 379 = .ok (.iadd, 1) := by decide +kernel
theorem dL_law_380 : decode cL_law 380 = .ok (.iaload, 1) := by decide +kernel
theorem dL_law_381 : decode cL_law 381 = .ok (.invokevirtual 43, 3) := by decide +kernel
theorem dL_law_384 : decode cL_law 384 = .ok (.aload_n 2, 1) := by decide +kernel
theorem dL_law_385 : decode cL_law 385 = .ok (.aload_n 0, 1) := by decide +kernel
theorem dL_law_386 : decode cL_law 386 = .ok (.iload_n 3, 1) := by decide +kernel
theorem dL_law_387 : decode cL_law 387 = .ok (.iconst 1, 1) := by decide +kernel
theorem dL_law_388 : decode cL_law 388 = .ok (.iadd, 1) := by decide +kernel
theorem dL_law_389 : decode cL_law 389 = .ok (.iaload, 1) := by decide +kernel
theorem dL_law_390 : decode cL_law 390 = .ok (.invokevirtual 47, 3) := by decide +kernel
theorem dL_law_393 : decode cL_law 393 = .ok (.if_icmp .eq 368, 3) := by decide +kernel
theorem dL_law_396 : decode cL_law 396 = .ok (.iconst 0, 1) := by decide +kernel
theorem dL_law_397 : decode cL_law 397 = .ok (.ireturn, 1) := by decide +kernel
theorem dL_law_398 : decode cL_law 398 = .ok (.aload_n 1, 1) := by decide +kernel
theorem dL_law_399 : decode cL_law 399 = .ok (.aload_n 0, 1) := by decide +kernel
theorem dL_law_400 : decode cL_law 400 = .ok (.iload_n 3, 1) := by decide +kernel
theorem dL_law_401 : decode cL_law 401 = .ok (.iconst 1, 1) := by decide +kernel
theorem dL_law_402 : decode cL_law 402 = .ok (.iadd, 1) := by decide +kernel
theorem dL_law_403 : decode cL_law 403 = .ok (.iaload, 1) := by decide +kernel
theorem dL_law_404 : decode cL_law 404 = .ok (.aload_n 0, 1) := by decide +kernel
theorem dL_law_405 : decode cL_law 405 = .ok (.iload_n 3, 1) := by decide +kernel
theorem dL_law_406 : decode cL_law 406 = .ok (.iconst 2, 1) := by decide +kernel
theorem dL_law_407 : decode cL_law 407 = .ok (.iadd, 1) := by decide +kernel
theorem dL_law_408 : decode cL_law 408 = .ok (.iaload, 1) := by decide +kernel
theorem dL_law_409 : decode cL_law 409 = .ok (.aload_n 0, 1) := by decide +kernel
theorem dL_law_410 : decode cL_law 410 = .ok (.iload_n 3, 1) := by decide +kernel
theorem dL_law_411 : decode cL_law 411 = .ok (.iconst 3, 1) := by decide +kernel
theorem dL_law_412 : decode cL_law 412 = .ok (.iadd, 1) := by decide +kernel
theorem dL_law_413 : decode cL_law 413 = .ok (.iaload, 1) := by decide +kernel
theorem dL_law_414 : decode cL_law 414 = .ok (.aload_n 0, 1) := by decide +kernel
theorem dL_law_415 : decode cL_law 415 = .ok (.iload_n 3, 1) := by decide +kernel
theorem dL_law_416 : decode cL_law 416 = .ok (.iconst 4, 1) := by decide +kernel
theorem dL_law_417 : decode cL_law 417 = .ok (.iadd, 1) := by decide +kernel
theorem dL_law_418 : decode cL_law 418 = .ok (.iaload, 1) := by decide +kernel
theorem dL_law_419 : decode cL_law 419 = .ok (.aload_n 0, 1) := by decide +kernel
theorem dL_law_420 : decode cL_law 420 = .ok (.iload_n 3, 1) := by decide +kernel
theorem dL_law_421 : decode cL_law 421 = .ok (.iconst 5, 1) := by decide +kernel
theorem dL_law_422 : decode cL_law 422 = .ok (.iadd, 1) := by decide +kernel
theorem dL_law_423 : decode cL_law 423 = .ok (.iaload, 1) := by decide +kernel
theorem dL_law_424 : decode cL_law 424 = .ok (.invokevirtual 48, 3) := by decide +kernel
theorem dL_law_427 : decode cL_law 427 = .ok (.aload_n 2, 1) := by decide +kernel
theorem dL_law_428 : decode cL_law 428 = .ok (.aload_n 0, 1) := by decide +kernel
theorem dL_law_429 : decode cL_law 429 = .ok (.iload_n 3, 1) := by decide +kernel
theorem dL_law_430 : decode cL_law 430 = .ok (.iconst 1, 1) := by decide +kernel
theorem dL_law_431 : decode cL_law 431 = .ok (.iadd, 1) := by decide +kernel
theorem dL_law_432 : decode cL_law 432 = .ok (.iaload, 1) := by decide +kernel
theorem dL_law_433 : decode cL_law 433 = .ok (.aload_n 0, 1) := by decide +kernel
theorem dL_law_434 : decode cL_law 434 = .ok (.iload_n 3, 1) := by decide +kernel
theorem dL_law_435 : decode cL_law 435 = .ok (.iconst 2, 1) := by decide +kernel
theorem dL_law_436 : decode cL_law 436 = .ok (.iadd, 1) := by decide +kernel
theorem dL_law_437 : decode cL_law 437 = .ok (.iaload, 1) := by decide +kernel
theorem dL_law_438 : decode cL_law 438 = .ok (.aload_n 0, 1) := by decide +kernel
theorem dL_law_439 : decode cL_law 439 = .ok (.iload_n 3, 1) := by decide +kernel
theorem dL_law_440 : decode cL_law 440 = .ok (.iconst 3, 1) := by decide +kernel
theorem dL_law_441 : decode cL_law 441 = .ok (.iadd, 1) := by decide +kernel
theorem dL_law_442 : decode cL_law 442 = .ok (.iaload, 1) := by decide +kernel
theorem dL_law_443 : decode cL_law 443 = .ok (.aload_n 0, 1) := by decide +kernel
theorem dL_law_444 : decode cL_law 444 = .ok (.iload_n 3, 1) := by decide +kernel
theorem dL_law_445 : decode cL_law 445 = .ok (.iconst 4, 1) := by decide +kernel
theorem dL_law_446 : decode cL_law 446 = .ok (.iadd, 1) := by decide +kernel
theorem dL_law_447 : decode cL_law 447 = .ok (.iaload, 1) := by decide +kernel
theorem dL_law_448 : decode cL_law 448 = .ok (.aload_n 0, 1) := by decide +kernel
theorem dL_law_449 : decode cL_law 449 = .ok (.iload_n 3, 1) := by decide +kernel
theorem dL_law_450 : decode cL_law 450 = .ok (.iconst 5, 1) := by decide +kernel
theorem dL_law_451 : decode cL_law 451 = .ok (.iadd, 1) := by decide +kernel
theorem dL_law_452 : decode cL_law 452 = .ok (.iaload, 1) := by decide +kernel
theorem dL_law_453 : decode cL_law 453 = .ok (.invokevirtual 52, 3) := by decide +kernel
theorem dL_law_456 : decode cL_law 456 = .ok (.if_icmp .eq 305, 3) := by decide +kernel
theorem dL_law_459 : decode cL_law 459 = .ok (.iconst 0, 1) := by decide +kernel
theorem dL_law_460 : decode cL_law 460 = .ok (.ireturn, 1) := by decide +kernel
theorem dL_law_461 : decode cL_law 461 = .ok (.aload_n 1, 1) := by decide +kernel
theorem dL_law_462 : decode cL_law 462 = .ok (.aload_n 0, 1) := by decide +kernel
theorem dL_law_463 : decode cL_law 463 = .ok (.iload_n 3, 1) := by decide +kernel
theorem dL_law_464 : decode cL_law 464 = .ok (.iconst 1, 1) := by decide +kernel
theorem dL_law_465 : decode cL_law 465 = .ok (.iadd, 1) := by decide +kernel
theorem dL_law_466 : decode cL_law 466 = .ok (.iaload, 1) := by decide +kernel
theorem dL_law_467 : decode cL_law 467 = .ok (.invokevirtual 53, 3) := by decide +kernel
theorem dL_law_470 : decode cL_law 470 = .ok (.aload_n 2, 1) := by decide +kernel
theorem dL_law_471 : decode cL_law 471 = .ok (.aload_n 0, 1) := by decide +kernel
theorem dL_law_472 : decode cL_law 472 = .ok (.iload_n 3, 1) := by decide +kernel
theorem dL_law_473 : decode cL_law 473 = .ok (.iconst 1, 1) := by decide +kernel
theorem dL_law_474 : decode cL_law 474 = .ok (.iadd, 1) := by decide +kernel
theorem dL_law_475 : decode cL_law 475 = .ok (.iaload, 1) := by decide +kernel
theorem dL_law_476 : decode cL_law 476 = .ok (.invokevirtual 56, 3) := by decide +kernel
theorem dL_law_479 : decode cL_law 479 = .ok (.if_icmp .eq 282, 3) := by decide +kernel
theorem dL_law_482 : decode cL_law 482 = .ok (.iconst 0, 1) := by decide +kernel
theorem dL_law_483 : decode cL_law 483 = .ok (.ireturn, 1) := by decide +kernel
theorem dL_law_484 : decode cL_law 484 = .ok (.aload_n 1, 1) := by decide +kernel
theorem dL_law_485 : decode cL_law 485 = .ok (.aload_n 0, 1) := by decide +kernel
theorem dL_law_486 : decode cL_law 486 = .ok (.iload_n 3, 1) := by decide +kernel
theorem dL_law_487 : decode cL_law 487 = .ok (.iconst 1, 1) := by decide +kernel
theorem dL_law_488 : decode cL_law 488 = .ok (.iadd, 1) := by decide +kernel
theorem dL_law_489 : decode cL_law 489 = .ok (.iaload, 1) := by decide +kernel
theorem dL_law_490 : decode cL_law 490 = .ok (.invokevirtual 57, 3) := by decide +kernel
theorem dL_law_493 : decode cL_law 493 = .ok (.aload_n 2, 1) := by decide +kernel
theorem dL_law_494 : decode cL_law 494 = .ok (.aload_n 0, 1) := by decide +kernel
theorem dL_law_495 : decode cL_law 495 = .ok (.iload_n 3, 1) := by decide +kernel
theorem dL_law_496 : decode cL_law 496 = .ok (.iconst 1, 1) := by decide +kernel
theorem dL_law_497 : decode cL_law 497 = .ok (.iadd, 1) := by decide +kernel
theorem dL_law_498 : decode cL_law 498 = .ok (.iaload, 1) := by decide +kernel
theorem dL_law_499 : decode cL_law 499 = .ok (.invokevirtual 60, 3) := by decide +kernel
theorem dL_law_502 : decode cL_law 502 = .ok (.if_icmp .eq 259, 3) := by decide +kernel
theorem dL_law_505 : decode cL_law 505 = .ok (.iconst 0, 1) := by decide +kernel
theorem dL_law_506 : decode cL_law 506 = .ok (.ireturn, 1) := by decide +kernel
theorem dL_law_507 : decode cL_law 507 = .ok (.aload_n 1, 1) := by decide +kernel
theorem dL_law_508 : decode cL_law 508 = .ok (.aload_n 0, 1) := by decide +kernel
theorem dL_law_509 : decode cL_law 509 = .ok (.iload_n 3, 1) := by decide +kernel
theorem dL_law_510 : decode cL_law 510 = .ok (.iconst 1, 1) := by decide +kernel
theorem dL_law_511 : decode cL_law 511 = .ok (.iadd, 1) := by decide +kernel
theorem dL_law_512 : decode cL_law 512 = .ok (.iaload, 1) := by decide +kernel
theorem dL_law_513 : decode cL_law 513 = .ok (.aload_n 0, 1) := by decide +kernel
theorem dL_law_514 : decode cL_law 514 = .ok (.iload_n 3, 1) := by decide +kernel
theorem dL_law_515 : decode cL_law 515 = .ok (.iconst 2, 1) := by decide +kernel
theorem dL_law_516 : decode cL_law 516 = .ok (.iadd, 1) := by decide +kernel
theorem dL_law_517 : decode cL_law 517 = .ok (.iaload, 1) := by decide +kernel
theorem dL_law_518 : decode cL_law 518 = .ok (.invokevirtual 61, 3) := by decide +kernel
theorem dL_law_521 : decode cL_law 521 = .ok (.aload_n 2, 1) := by decide +kernel
theorem dL_law_522 : decode cL_law 522 = .ok (.aload_n 0, 1) := by decide +kernel
theorem dL_law_523 : decode cL_law 523 = .ok (.iload_n 3, 1) := by decide +kernel
theorem dL_law_524 : decode cL_law 524 = .ok (.iconst 1, 1) := by decide +kernel
theorem dL_law_525 : decode cL_law 525 = .ok (.iadd, 1) := by decide +kernel
theorem dL_law_526 : decode cL_law 526 = .ok (.iaload, 1) := by decide +kernel
theorem dL_law_527 : decode cL_law 527 = .ok (.aload_n 0, 1) := by decide +kernel
theorem dL_law_528 : decode cL_law 528 = .ok (.iload_n 3, 1) := by decide +kernel
theorem dL_law_529 : decode cL_law 529 = .ok (.iconst 2, 1) := by decide +kernel
theorem dL_law_530 : decode cL_law 530 = .ok (.iadd, 1) := by decide +kernel
theorem dL_law_531 : decode cL_law 531 = .ok (.iaload, 1) := by decide +kernel
theorem dL_law_532 : decode cL_law 532 = .ok (.invokevirtual 64, 3) := by decide +kernel
theorem dL_law_535 : decode cL_law 535 = .ok (.if_icmp .eq 226, 3) := by decide +kernel
theorem dL_law_538 : decode cL_law 538 = .ok (.iconst 0, 1) := by decide +kernel
theorem dL_law_539 : decode cL_law 539 = .ok (.ireturn, 1) := by decide +kernel
theorem dL_law_540 : decode cL_law 540 = .ok (.aload_n 1, 1) := by decide +kernel
theorem dL_law_541 : decode cL_law 541 = .ok (.aload_n 0, 1) := by decide +kernel
theorem dL_law_542 : decode cL_law 542 = .ok (.iload_n 3, 1) := by decide +kernel
theorem dL_law_543 : decode cL_law 543 = .ok (.iconst 1, 1) := by decide +kernel
theorem dL_law_544 : decode cL_law 544 = .ok (.iadd, 1) := by decide +kernel
theorem dL_law_545 : decode cL_law 545 = .ok (.iaload, 1) := by decide +kernel
theorem dL_law_546 : decode cL_law 546 = .ok (.aload_n 0, 1) := by decide +kernel
theorem dL_law_547 : decode cL_law 547 = .ok (.iload_n 3, 1) := by decide +kernel
theorem dL_law_548 : decode cL_law 548 = .ok (.iconst 2, 1) := by decide +kernel
theorem dL_law_549 : decode cL_law 549 = .ok (.iadd, 1) := by decide +kernel
theorem dL_law_550 : decode cL_law 550 = .ok (.iaload, 1) := by decide +kernel
theorem dL_law_551 : decode cL_law 551 = .ok (.invokevirtual 65, 3) := by decide +kernel
theorem dL_law_554 : decode cL_law 554 = .ok (.aload_n 2, 1) := by decide +kernel
theorem dL_law_555 : decode cL_law 555 = .ok (.aload_n 0, 1) := by decide +kernel
theorem dL_law_556 : decode cL_law 556 = .ok (.iload_n 3, 1) := by decide +kernel
theorem dL_law_557 : decode cL_law 557 = .ok (.iconst 1, 1) := by decide +kernel
theorem dL_law_558 : decode cL_law 558 = .ok (.iadd, 1) := by decide +kernel
theorem dL_law_559 : decode cL_law 559 = .ok (.iaload, 1) := by decide +kernel
theorem dL_law_560 : decode cL_law 560 = .ok (.aload_n 0, 1) := by decide +kernel
theorem dL_law_561 : decode cL_law 561 = .ok (.iload_n 3, 1) := by decide +kernel
theorem dL_law_562 : decode cL_law 562 = .ok (.iconst 2, 1) := by decide +kernel
theorem dL_law_563 : decode cL_law 563 = .ok (.iadd, 1) := by decide +kernel
theorem dL_law_564 : decode cL_law 564 = .ok (.iaload, 1) := by decide +kernel
theorem dL_law_565 : decode cL_law 565 = .ok (.invokevirtual 68, 3) := by decide +kernel
theorem dL_law_568 : decode cL_law 568 = .ok (.if_icmp .eq 193, 3) := by decide +kernel
theorem dL_law_571 : decode cL_law 571 = .ok (.iconst 0, 1) := by decide +kernel
theorem dL_law_572 : decode cL_law 572 = .ok (.ireturn, 1) := by decide +kernel
theorem dL_law_573 : decode cL_law 573 = .ok (.aload_n 1, 1) := by decide +kernel
theorem dL_law_574 : decode cL_law 574 = .ok (.aload_n 0, 1) := by decide +kernel
theorem dL_law_575 : decode cL_law 575 = .ok (.iload_n 3, 1) := by decide +kernel
theorem dL_law_576 : decode cL_law 576 = .ok (.iconst 1, 1) := by decide +kernel
theorem dL_law_577 : decode cL_law 577 = .ok (.iadd, 1) := by decide +kernel
theorem dL_law_578 : decode cL_law 578 = .ok (.iaload, 1) := by decide +kernel
theorem dL_law_579 : decode cL_law 579 = .ok (.aload_n 0, 1) := by decide +kernel
theorem dL_law_580 : decode cL_law 580 = .ok (.iload_n 3, 1) := by decide +kernel
theorem dL_law_581 : decode cL_law 581 = .ok (.iconst 2, 1) := by decide +kernel
theorem dL_law_582 : decode cL_law 582 = .ok (.iadd, 1) := by decide +kernel
theorem dL_law_583 : decode cL_law 583 = .ok (.iaload, 1) := by decide +kernel
theorem dL_law_584 : decode cL_law 584 = .ok (.aload_n 0, 1) := by decide +kernel
theorem dL_law_585 : decode cL_law 585 = .ok (.iload_n 3, 1) := by decide +kernel
theorem dL_law_586 : decode cL_law 586 = .ok (.iconst 3, 1) := by decide +kernel
theorem dL_law_587 : decode cL_law 587 = .ok (.iadd, 1) := by decide +kernel
theorem dL_law_588 : decode cL_law 588 = .ok (.iaload, 1) := by decide +kernel
theorem dL_law_589 : decode cL_law 589 = .ok (.invokevirtual 69, 3) := by decide +kernel
theorem dL_law_592 : decode cL_law 592 = .ok (.aload_n 2, 1) := by decide +kernel
theorem dL_law_593 : decode cL_law 593 = .ok (.aload_n 0, 1) := by decide +kernel
theorem dL_law_594 : decode cL_law 594 = .ok (.iload_n 3, 1) := by decide +kernel
theorem dL_law_595 : decode cL_law 595 = .ok (.iconst 1, 1) := by decide +kernel
theorem dL_law_596 : decode cL_law 596 = .ok (.iadd, 1) := by decide +kernel
theorem dL_law_597 : decode cL_law 597 = .ok (.iaload, 1) := by decide +kernel
theorem dL_law_598 : decode cL_law 598 = .ok (.aload_n 0, 1) := by decide +kernel
theorem dL_law_599 : decode cL_law 599 = .ok (.iload_n 3, 1) := by decide +kernel
theorem dL_law_600 : decode cL_law 600 = .ok (.iconst 2, 1) := by decide +kernel
theorem dL_law_601 : decode cL_law 601 = .ok (.iadd, 1) := by decide +kernel
theorem dL_law_602 : decode cL_law 602 = .ok (.iaload, 1) := by decide +kernel
theorem dL_law_603 : decode cL_law 603 = .ok (.aload_n 0, 1) := by decide +kernel
theorem dL_law_604 : decode cL_law 604 = .ok (.iload_n 3, 1) := by decide +kernel
theorem dL_law_605 : decode cL_law 605 = .ok (.iconst 3, 1) := by decide +kernel
theorem dL_law_606 : decode cL_law 606 = .ok (.iadd, 1) := by decide +kernel
theorem dL_law_607 : decode cL_law 607 = .ok (.iaload, 1) := by decide +kernel
theorem dL_law_608 : decode cL_law 608 = .ok (.invokevirtual 72, 3) := by decide +kernel
theorem dL_law_611 : decode cL_law 611 = .ok (.if_icmp .eq 150, 3) := by decide +kernel
theorem dL_law_614 : decode cL_law 614 = .ok (.iconst 0, 1) := by decide +kernel
theorem dL_law_615 : decode cL_law 615 = .ok (.ireturn, 1) := by decide +kernel
theorem dL_law_616 : decode cL_law 616 = .ok (.aload_n 1, 1) := by decide +kernel
theorem dL_law_617 : decode cL_law 617 = .ok (.aload_n 0, 1) := by decide +kernel
theorem dL_law_618 : decode cL_law 618 = .ok (.iload_n 3, 1) := by decide +kernel
theorem dL_law_619 : decode cL_law 619 = .ok (.iconst 1, 1) := by decide +kernel
theorem dL_law_620 : decode cL_law 620 = .ok (.iadd, 1) := by decide +kernel
theorem dL_law_621 : decode cL_law 621 = .ok (.iaload, 1) := by decide +kernel
theorem dL_law_622 : decode cL_law 622 = .ok (.aload_n 0, 1) := by decide +kernel
theorem dL_law_623 : decode cL_law 623 = .ok (.iload_n 3, 1) := by decide +kernel
theorem dL_law_624 : decode cL_law 624 = .ok (.iconst 2, 1) := by decide +kernel
theorem dL_law_625 : decode cL_law 625 = .ok (.iadd, 1) := by decide +kernel
theorem dL_law_626 : decode cL_law 626 = .ok (.iaload, 1) := by decide +kernel
theorem dL_law_627 : decode cL_law 627 = .ok (.invokevirtual 73, 3) := by decide +kernel
theorem dL_law_630 : decode cL_law 630 = .ok (.aload_n 2, 1) := by decide +kernel
theorem dL_law_631 : decode cL_law 631 = .ok (.aload_n 0, 1) := by decide +kernel
theorem dL_law_632 : decode cL_law 632 = .ok (.iload_n 3, 1) := by decide +kernel
theorem dL_law_633 : decode cL_law 633 = .ok (.iconst 1, 1) := by decide +kernel
theorem dL_law_634 : decode cL_law 634 = .ok (.iadd, 1) := by decide +kernel
theorem dL_law_635 : decode cL_law 635 = .ok (.iaload, 1) := by decide +kernel
theorem dL_law_636 : decode cL_law 636 = .ok (.aload_n 0, 1) := by decide +kernel
theorem dL_law_637 : decode cL_law 637 = .ok (.iload_n 3, 1) := by decide +kernel
theorem dL_law_638 : decode cL_law 638 = .ok (.iconst 2, 1) := by decide +kernel
theorem dL_law_639 : decode cL_law 639 = .ok (.iadd, 1) := by decide +kernel
theorem dL_law_640 : decode cL_law 640 = .ok (.iaload, 1) := by decide +kernel
theorem dL_law_641 : decode cL_law 641 = .ok (.invokevirtual 76, 3) := by decide +kernel
theorem dL_law_644 : decode cL_law 644 = .ok (.if_icmp .eq 117, 3) := by decide +kernel
theorem dL_law_647 : decode cL_law 647 = .ok (.iconst 0, 1) := by decide +kernel
theorem dL_law_648 : decode cL_law 648 = .ok (.ireturn, 1) := by decide +kernel
theorem dL_law_649 : decode cL_law 649 = .ok (.aload_n 1, 1) := by decide +kernel
theorem dL_law_650 : decode cL_law 650 = .ok (.aload_n 0, 1) := by decide +kernel
theorem dL_law_651 : decode cL_law 651 = .ok (.iload_n 3, 1) := by decide +kernel
theorem dL_law_652 : decode cL_law 652 = .ok (.iconst 1, 1) := by decide +kernel
theorem dL_law_653 : decode cL_law 653 = .ok (.iadd, 1) := by decide +kernel
theorem dL_law_654 : decode cL_law 654 = .ok (.iaload, 1) := by decide +kernel
theorem dL_law_655 : decode cL_law 655 = .ok (.aload_n 0, 1) := by decide +kernel
theorem dL_law_656 : decode cL_law 656 = .ok (.iload_n 3, 1) := by decide +kernel
theorem dL_law_657 : decode cL_law 657 = .ok (.iconst 2, 1) := by decide +kernel
theorem dL_law_658 : decode cL_law 658 = .ok (.iadd, 1) := by decide +kernel
theorem dL_law_659 : decode cL_law 659 = .ok (.iaload, 1) := by decide +kernel
theorem dL_law_660 : decode cL_law 660 = .ok (.invokevirtual 77, 3) := by decide +kernel
theorem dL_law_663 : decode cL_law 663 = .ok (.aload_n 2, 1) := by decide +kernel
theorem dL_law_664 : decode cL_law 664 = .ok (.aload_n 0, 1) := by decide +kernel
theorem dL_law_665 : decode cL_law 665 = .ok (.iload_n 3, 1) := by decide +kernel
theorem dL_law_666 : decode cL_law 666 = .ok (.iconst 1, 1) := by decide +kernel
theorem dL_law_667 : decode cL_law 667 = .ok (.iadd, 1) := by decide +kernel
theorem dL_law_668 : decode cL_law 668 = .ok (.iaload, 1) := by decide +kernel
theorem dL_law_669 : decode cL_law 669 = .ok (.aload_n 0, 1) := by decide +kernel
theorem dL_law_670 : decode cL_law 670 = .ok (.iload_n 3, 1) := by decide +kernel
theorem dL_law_671 : decode cL_law 671 = .ok (.iconst 2, 1) := by decide +kernel
theorem dL_law_672 : decode cL_law 672 = .ok (.iadd, 1) := by decide +kernel
theorem dL_law_673 : decode cL_law 673 = .ok (.iaload, 1) := by decide +kernel
theorem dL_law_674 : decode cL_law 674 = .ok (.invokevirtual 80, 3) := by decide +kernel
theorem dL_law_677 : decode cL_law 677 = .ok (.if_icmp .eq 84, 3) := by decide +kernel
theorem dL_law_680 : decode cL_law 680 = .ok (.iconst 0, 1) := by decide +kernel
theorem dL_law_681 : decode cL_law 681 = .ok (.ireturn, 1) := by decide +kernel
theorem dL_law_682 : decode cL_law 682 = .ok (.aload_n 1, 1) := by decide +kernel
theorem dL_law_683 : decode cL_law 683 = .ok (.aload_n 0, 1) := by decide +kernel
theorem dL_law_684 : decode cL_law 684 = .ok (.iload_n 3, 1) := by decide +kernel
theorem dL_law_685 : decode cL_law 685 = .ok (.iconst 1, 1) := by decide +kernel
theorem dL_law_686 : decode cL_law 686 = .ok (.iadd, 1) := by decide +kernel
theorem dL_law_687 : decode cL_law 687 = .ok (.iaload, 1) := by decide +kernel
theorem dL_law_688 : decode cL_law 688 = .ok (.aload_n 0, 1) := by decide +kernel
theorem dL_law_689 : decode cL_law 689 = .ok (.iload_n 3, 1) := by decide +kernel
theorem dL_law_690 : decode cL_law 690 = .ok (.iconst 2, 1) := by decide +kernel
theorem dL_law_691 : decode cL_law 691 = .ok (.iadd, 1) := by decide +kernel
theorem dL_law_692 : decode cL_law 692 = .ok (.iaload, 1) := by decide +kernel
theorem dL_law_693 : decode cL_law 693 = .ok (.invokevirtual 81, 3) := by decide +kernel
theorem dL_law_696 : decode cL_law 696 = .ok (.aload_n 2, 1) := by decide +kernel
theorem dL_law_697 : decode cL_law 697 = .ok (.aload_n 0, 1) := by decide +kernel
theorem dL_law_698 : decode cL_law 698 = .ok (.iload_n 3, 1) := by decide +kernel
theorem dL_law_699 : decode cL_law 699 = .ok (.iconst 1, 1) := by decide +kernel
theorem dL_law_700 : decode cL_law 700 = .ok (.iadd, 1) := by decide +kernel
theorem dL_law_701 : decode cL_law 701 = .ok (.iaload, 1) := by decide +kernel
theorem dL_law_702 : decode cL_law 702 = .ok (.aload_n 0, 1) := by decide +kernel
theorem dL_law_703 : decode cL_law 703 = .ok (.iload_n 3, 1) := by decide +kernel
theorem dL_law_704 : decode cL_law 704 = .ok (.iconst 2, 1) := by decide +kernel
theorem dL_law_705 : decode cL_law 705 = .ok (.iadd, 1) := by decide +kernel
theorem dL_law_706 : decode cL_law 706 = .ok (.iaload, 1) := by decide +kernel
theorem dL_law_707 : decode cL_law 707 = .ok (.invokevirtual 84, 3) := by decide +kernel
theorem dL_law_710 : decode cL_law 710 = .ok (.if_icmp .eq 51, 3) := by decide +kernel
theorem dL_law_713 : decode cL_law 713 = .ok (.iconst 0, 1) := by decide +kernel
theorem dL_law_714 : decode cL_law 714 = .ok (.ireturn, 1) := by decide +kernel
theorem dL_law_715 : decode cL_law 715 = .ok (.aload_n 1, 1) := by decide +kernel
theorem dL_law_716 : decode cL_law 716 = .ok (.aload_n 0, 1) := by decide +kernel
theorem dL_law_717 : decode cL_law 717 = .ok (.iload_n 3, 1) := by decide +kernel
theorem dL_law_718 : decode cL_law 718 = .ok (.iconst 1, 1) := by decide +kernel
theorem dL_law_719 : decode cL_law 719 = .ok (.iadd, 1) := by decide +kernel
theorem dL_law_720 : decode cL_law 720 = .ok (.iaload, 1) := by decide +kernel
theorem dL_law_721 : decode cL_law 721 = .ok (.invokevirtual 85, 3) := by decide +kernel
theorem dL_law_724 : decode cL_law 724 = .ok (.aload_n 2, 1) := by decide +kernel
theorem dL_law_725 : decode cL_law 725 = .ok (.aload_n 0, 1) := by decide +kernel
theorem dL_law_726 : decode cL_law 726 = .ok (.iload_n 3, 1) := by decide +kernel
theorem dL_law_727 : decode cL_law 727 = .ok (.iconst 1, 1) := by decide +kernel
theorem dL_law_728 : decode cL_law 728 = .ok (.iadd, 1) := by decide +kernel
theorem dL_law_729 : decode cL_law 729 = .ok (.iaload, 1) := by decide +kernel
theorem dL_law_730 : decode cL_law 730 = .ok (.invokevirtual 88, 3) := by decide +kernel
theorem dL_law_733 : decode cL_law 733 = .ok (.if_icmp .eq 28, 3) := by decide +kernel
theorem dL_law_736 : decode cL_law 736 = .ok (.iconst 0, 1) := by decide +kernel
theorem dL_law_737 : decode cL_law 737 = .ok (.ireturn, 1) := by decide +kernel
theorem dL_law_738 : decode cL_law 738 = .ok (.aload_n 1, 1) := by decide +kernel
theorem dL_law_739 : decode cL_law 739 = .ok (.aload_n 0, 1) := by decide +kernel
theorem dL_law_740 : decode cL_law 740 = .ok (.iload_n 3, 1) := by decide +kernel
theorem dL_law_741 : decode cL_law 741 = .ok (.iconst 1, 1) := by decide +kernel
theorem dL_law_742 : decode cL_law 742 = .ok (.iadd, 1) := by decide +kernel
theorem dL_law_743 : decode cL_law 743 = .ok (.iaload, 1) := by decide +kernel
theorem dL_law_744 : decode cL_law 744 = .ok (.invokevirtual 89, 3) := by decide +kernel
theorem dL_law_747 : decode cL_law 747 = .ok (.aload_n 2, 1) := by decide +kernel
theorem dL_law_748 : decode cL_law 748 = .ok (.aload_n 0, 1) := by decide +kernel
theorem dL_law_749 : decode cL_law 749 = .ok (.iload_n 3, 1) := by decide +kernel
theorem dL_law_750 : decode cL_law 750 = .ok (.iconst 1, 1) := by decide +kernel
theorem dL_law_751 : decode cL_law 751 = .ok (.iadd, 1) := by decide +kernel
theorem dL_law_752 : decode cL_law 752 = .ok (.iaload, 1) := by decide +kernel
theorem dL_law_753 : decode cL_law 753 = .ok (.invokevirtual 92, 3) := by decide +kernel
theorem dL_law_756 : decode cL_law 756 = .ok (.if_icmp .eq 5, 3) := by decide +kernel
theorem dL_law_759 : decode cL_law 759 = .ok (.iconst 0, 1) := by decide +kernel
theorem dL_law_760 : decode cL_law 760 = .ok (.ireturn, 1) := by decide +kernel
theorem dL_law_761 : decode cL_law 761 = .ok (.iinc 3 6, 3) := by decide +kernel
theorem dL_law_764 : decode cL_law 764 = .ok (.goto (-746), 3) := by decide +kernel
theorem dL_law_767 : decode cL_law 767 = .ok (.iconst 1, 1) := by decide +kernel
theorem dL_law_768 : decode cL_law 768 = .ok (.ireturn, 1) := by decide +kernel
abbrev vwCl : List vw_C := [(RX0, TX0, 6), (RX1, TX1, 6), (RX2, TX2, 1), (RX3, TX3, 4), (RX4, TX4, 4), (RX5, TX5, 2), (RX6, TX6, 1), (RX7, TX7, 3), (RX8, TX8, 1), (RX9, TX9, 12), (RX10, TX10, 27)]
end
section
/-! the words of the tables, by their places -/
def TBw : List Cond := lw_tbl.filter goodWord
theorem tb_of {w : Cond} (i : Nat) (h : lw_tbl[i]? = some w) (g : goodWord w = true) : w ∈ TBw := List.mem_filter.mpr ⟨List.mem_of_getElem? h, g⟩
theorem tb_in {w : Cond} (h : w ∈ TBw) : w ∈ lw_tbl := (List.mem_filter.mp h).1
theorem tb_good : GoodIn TBw TBw := fun w h => ⟨h, good_of_word (List.mem_filter.mp h).2⟩
theorem ini_L : (Cond.initialized RL) ∈ TBw := tb_of 23 (by decide +kernel) (by decide +kernel)
theorem ini_X9 : (Cond.initialized RX9) ∈ TBw := tb_of 24 (by decide +kernel) (by decide +kernel)
theorem ini_X2 : (Cond.initialized RX2) ∈ TBw := tb_of 25 (by decide +kernel) (by decide +kernel)
theorem ini_Math : (Cond.initialized "java/lang/Math") ∈ TBw := tb_of 26 (by decide +kernel) (by decide +kernel)
theorem ini_X1 : (Cond.initialized RX1) ∈ TBw := tb_of 27 (by decide +kernel) (by decide +kernel)
theorem ini_X0 : (Cond.initialized RX0) ∈ TBw := tb_of 28 (by decide +kernel) (by decide +kernel)
theorem ini_X8 : (Cond.initialized RX8) ∈ TBw := tb_of 29 (by decide +kernel) (by decide +kernel)
theorem ini_X6 : (Cond.initialized RX6) ∈ TBw := tb_of 30 (by decide +kernel) (by decide +kernel)
theorem ini_X3 : (Cond.initialized RX3) ∈ TBw := tb_of 31 (by decide +kernel) (by decide +kernel)
theorem ini_X7 : (Cond.initialized RX7) ∈ TBw := tb_of 32 (by decide +kernel) (by decide +kernel)
theorem ini_X4 : (Cond.initialized RX4) ∈ TBw := tb_of 33 (by decide +kernel) (by decide +kernel)
theorem ini_X5 : (Cond.initialized RX5) ∈ TBw := tb_of 34 (by decide +kernel) (by decide +kernel)
theorem ini_X10 : (Cond.initialized RX10) ∈ TBw := tb_of 35 (by decide +kernel) (by decide +kernel)
theorem lk_L_7 : (Cond.classLink RL 7 RX9) ∈ TBw := tb_of 36 (by decide +kernel) (by decide +kernel)
theorem inst_X9 : (Cond.instantiable RX9 12) ∈ TBw := tb_of 37 (by decide +kernel) (by decide +kernel)
theorem lk_L_9 : (Cond.methodLink RL 9 yX9_init) ∈ TBw := tb_of 38 (by decide +kernel) (by decide +kernel)
theorem in_X9_init : (Cond.instanceMethod yX9_init) ∈ TBw := tb_of 39 (by decide +kernel) (by decide +kernel)
theorem co_X9_init : (Cond.code yX9_init cX9_init 1 none) ∈ TBw := tb_of 40 (by decide +kernel) (by decide +kernel)
theorem lk_X9_3 : (Cond.methodLink RX9 3 objectInit) ∈ TBw := tb_of 41 (by decide +kernel) (by decide +kernel)
theorem in_objectInit : (Cond.instanceMethod objectInit) ∈ TBw := tb_of 42 (by decide +kernel) (by decide +kernel)
theorem co_objectInit : (Cond.code objectInit ⟨#[0xb1]⟩ 1 none) ∈ TBw := tb_of 43 (by decide +kernel) (by decide +kernel)
theorem lk_X9_9 : (Cond.classLink RX9 9 RX2) ∈ TBw := tb_of 44 (by decide +kernel) (by decide +kernel)
theorem inst_X2 : (Cond.instantiable RX2 1) ∈ TBw := tb_of 45 (by decide +kernel) (by decide +kernel)
theorem lk_X9_11 : (Cond.methodLink RX9 11 yX2_init) ∈ TBw := tb_of 46 (by decide +kernel) (by decide +kernel)
theorem in_X2_init : (Cond.instanceMethod yX2_init) ∈ TBw := tb_of 47 (by decide +kernel) (by decide +kernel)
theorem co_X2_init : (Cond.code yX2_init cX2_init 2 none) ∈ TBw := tb_of 48 (by decide +kernel) (by decide +kernel)
theorem lk_X2_1 : (Cond.methodLink RX2 1 objectInit) ∈ TBw := tb_of 49 (by decide +kernel) (by decide +kernel)
theorem lk_X2_7 : (Cond.methodLink RX2 7 Lib.Math.max.name) ∈ TBw := tb_of 50 (by decide +kernel) (by decide +kernel)
theorem sta_max : (Cond.static Lib.Math.max.name) ∈ TBw := tb_of 51 (by decide +kernel) (by decide +kernel)
theorem co_max : (Cond.code Lib.Math.max.name Lib.Math.max.code 2 (some .int)) ∈ TBw := tb_of 52 (by decide +kernel) (by decide +kernel)
theorem lk_X2_13 : (Cond.fieldLink RX2 13 "DredgeWays$Numbers" "items" "[I") ∈ TBw := tb_of 53 (by decide +kernel) (by decide +kernel)
theorem ac_int : (Cond.arrayClass .int) ∈ TBw := tb_of 57 (by decide +kernel) (by decide +kernel)
theorem lk_X9_18 : (Cond.classLink RX9 18 RX1) ∈ TBw := tb_of 58 (by decide +kernel) (by decide +kernel)
theorem inst_X1 : (Cond.instantiable RX1 6) ∈ TBw := tb_of 59 (by decide +kernel) (by decide +kernel)
theorem nl_X9_20 : (Cond.methodLinkNest RX9 20 yX1_init RX9) ∈ lw_tbl := List.mem_of_getElem? (i := 60) (by decide +kernel)
theorem in_X1_init : (Cond.instanceMethod yX1_init) ∈ TBw := tb_of 61 (by decide +kernel) (by decide +kernel)
theorem co_X1_init : (Cond.code yX1_init cX1_init 1 none) ∈ TBw := tb_of 62 (by decide +kernel) (by decide +kernel)
theorem lk_X1_3 : (Cond.methodLink RX1 3 objectInit) ∈ TBw := tb_of 63 (by decide +kernel) (by decide +kernel)
theorem lk_X1_9 : (Cond.classLink RX1 9 RX2) ∈ TBw := tb_of 64 (by decide +kernel) (by decide +kernel)
theorem lk_X1_11 : (Cond.methodLink RX1 11 yX2_init) ∈ TBw := tb_of 65 (by decide +kernel) (by decide +kernel)
theorem lk_X1_14 : (Cond.fieldLink RX1 14 "DredgeWays$Ground" "depth" "LDredgeWays$Numbers;") ∈ TBw := tb_of 66 (by decide +kernel) (by decide +kernel)
theorem lk_X9_90 : (Cond.fieldLink RX9 90 "DredgeWays$Ground" "depth" "LDredgeWays$Numbers;") ∈ TBw := tb_of 67 (by decide +kernel) (by decide +kernel)
theorem lk_X3_66 : (Cond.fieldLink RX3 66 "DredgeWays$Ground" "depth" "LDredgeWays$Numbers;") ∈ TBw := tb_of 68 (by decide +kernel) (by decide +kernel)
theorem lk_X5_51 : (Cond.fieldLink RX5 51 "DredgeWays$Ground" "depth" "LDredgeWays$Numbers;") ∈ TBw := tb_of 69 (by decide +kernel) (by decide +kernel)
theorem lk_X1_20 : (Cond.fieldLink RX1 20 "DredgeWays$Ground" "design" "LDredgeWays$Numbers;") ∈ TBw := tb_of 70 (by decide +kernel) (by decide +kernel)
theorem lk_X9_97 : (Cond.fieldLink RX9 97 "DredgeWays$Ground" "design" "LDredgeWays$Numbers;") ∈ TBw := tb_of 71 (by decide +kernel) (by decide +kernel)
theorem lk_X5_61 : (Cond.fieldLink RX5 61 "DredgeWays$Ground" "design" "LDredgeWays$Numbers;") ∈ TBw := tb_of 72 (by decide +kernel) (by decide +kernel)
theorem lk_X1_23 : (Cond.fieldLink RX1 23 "DredgeWays$Ground" "silting" "LDredgeWays$Numbers;") ∈ TBw := tb_of 73 (by decide +kernel) (by decide +kernel)
theorem lk_X1_26 : (Cond.fieldLink RX1 26 "DredgeWays$Ground" "columns" "I") ∈ TBw := tb_of 74 (by decide +kernel) (by decide +kernel)
theorem lk_X0_48 : (Cond.fieldLink RX0 48 "DredgeWays$Ground" "columns" "I") ∈ TBw := tb_of 75 (by decide +kernel) (by decide +kernel)
theorem lk_X3_63 : (Cond.fieldLink RX3 63 "DredgeWays$Ground" "columns" "I") ∈ TBw := tb_of 76 (by decide +kernel) (by decide +kernel)
theorem lk_X9_209 : (Cond.fieldLink RX9 209 "DredgeWays$Ground" "columns" "I") ∈ TBw := tb_of 77 (by decide +kernel) (by decide +kernel)
theorem lk_X1_30 : (Cond.fieldLink RX1 30 "DredgeWays$Ground" "rows" "I") ∈ TBw := tb_of 78 (by decide +kernel) (by decide +kernel)
theorem lk_X0_43 : (Cond.fieldLink RX0 43 "DredgeWays$Ground" "rows" "I") ∈ TBw := tb_of 79 (by decide +kernel) (by decide +kernel)
theorem lk_X9_212 : (Cond.fieldLink RX9 212 "DredgeWays$Ground" "rows" "I") ∈ TBw := tb_of 80 (by decide +kernel) (by decide +kernel)
theorem lk_X1_33 : (Cond.fieldLink RX1 33 "DredgeWays$Ground" "silt" "I") ∈ TBw := tb_of 81 (by decide +kernel) (by decide +kernel)
theorem lk_X9_230 : (Cond.fieldLink RX9 230 "DredgeWays$Ground" "silt" "I") ∈ TBw := tb_of 82 (by decide +kernel) (by decide +kernel)
theorem lk_X9_25 : (Cond.classLink RX9 25 RX0) ∈ TBw := tb_of 96 (by decide +kernel) (by decide +kernel)
theorem inst_X0 : (Cond.instantiable RX0 6) ∈ TBw := tb_of 97 (by decide +kernel) (by decide +kernel)
theorem nl_X9_27 : (Cond.methodLinkNest RX9 27 yX0_init RX9) ∈ lw_tbl := List.mem_of_getElem? (i := 98) (by decide +kernel)
theorem in_X0_init : (Cond.instanceMethod yX0_init) ∈ TBw := tb_of 99 (by decide +kernel) (by decide +kernel)
theorem co_X0_init : (Cond.code yX0_init cX0_init 1 none) ∈ TBw := tb_of 100 (by decide +kernel) (by decide +kernel)
theorem lk_X0_3 : (Cond.methodLink RX0 3 objectInit) ∈ TBw := tb_of 101 (by decide +kernel) (by decide +kernel)
theorem lk_X0_9 : (Cond.classLink RX0 9 RX2) ∈ TBw := tb_of 102 (by decide +kernel) (by decide +kernel)
theorem lk_X0_11 : (Cond.methodLink RX0 11 yX2_init) ∈ TBw := tb_of 103 (by decide +kernel) (by decide +kernel)
theorem lk_X0_14 : (Cond.fieldLink RX0 14 "DredgeWays$Clouds" "afloat" "LDredgeWays$Numbers;") ∈ TBw := tb_of 104 (by decide +kernel) (by decide +kernel)
theorem lk_X4_38 : (Cond.fieldLink RX4 38 "DredgeWays$Clouds" "afloat" "LDredgeWays$Numbers;") ∈ TBw := tb_of 105 (by decide +kernel) (by decide +kernel)
theorem lk_X9_199 : (Cond.fieldLink RX9 199 "DredgeWays$Clouds" "afloat" "LDredgeWays$Numbers;") ∈ TBw := tb_of 106 (by decide +kernel) (by decide +kernel)
theorem lk_X0_20 : (Cond.fieldLink RX0 20 "DredgeWays$Clouds" "loose" "LDredgeWays$Numbers;") ∈ TBw := tb_of 107 (by decide +kernel) (by decide +kernel)
theorem lk_X9_202 : (Cond.fieldLink RX9 202 "DredgeWays$Clouds" "loose" "LDredgeWays$Numbers;") ∈ TBw := tb_of 108 (by decide +kernel) (by decide +kernel)
theorem lk_X0_23 : (Cond.fieldLink RX0 23 "DredgeWays$Clouds" "next" "LDredgeWays$Numbers;") ∈ TBw := tb_of 109 (by decide +kernel) (by decide +kernel)
theorem lk_X0_29 : (Cond.fieldLink RX0 29 "DredgeWays$Clouds" "came" "I") ∈ TBw := tb_of 110 (by decide +kernel) (by decide +kernel)
theorem lk_X9_221 : (Cond.fieldLink RX9 221 "DredgeWays$Clouds" "came" "I") ∈ TBw := tb_of 111 (by decide +kernel) (by decide +kernel)
theorem lk_X0_33 : (Cond.fieldLink RX0 33 "DredgeWays$Clouds" "gone" "I") ∈ TBw := tb_of 112 (by decide +kernel) (by decide +kernel)
theorem lk_X9_224 : (Cond.fieldLink RX9 224 "DredgeWays$Clouds" "gone" "I") ∈ TBw := tb_of 113 (by decide +kernel) (by decide +kernel)
theorem lk_X0_36 : (Cond.fieldLink RX0 36 "DredgeWays$Clouds" "settled" "I") ∈ TBw := tb_of 114 (by decide +kernel) (by decide +kernel)
theorem lk_X9_227 : (Cond.fieldLink RX9 227 "DredgeWays$Clouds" "settled" "I") ∈ TBw := tb_of 115 (by decide +kernel) (by decide +kernel)
theorem lk_X9_32 : (Cond.classLink RX9 32 RX8) ∈ TBw := tb_of 129 (by decide +kernel) (by decide +kernel)
theorem inst_X8 : (Cond.instantiable RX8 1) ∈ TBw := tb_of 130 (by decide +kernel) (by decide +kernel)
theorem nl_X9_34 : (Cond.methodLinkNest RX9 34 yX8_init RX9) ∈ lw_tbl := List.mem_of_getElem? (i := 131) (by decide +kernel)
theorem in_X8_init : (Cond.instanceMethod yX8_init) ∈ TBw := tb_of 132 (by decide +kernel) (by decide +kernel)
theorem co_X8_init : (Cond.code yX8_init cX8_init 1 none) ∈ TBw := tb_of 133 (by decide +kernel) (by decide +kernel)
theorem lk_X8_3 : (Cond.methodLink RX8 3 objectInit) ∈ TBw := tb_of 134 (by decide +kernel) (by decide +kernel)
theorem lk_X8_9 : (Cond.classLink RX8 9 RX2) ∈ TBw := tb_of 135 (by decide +kernel) (by decide +kernel)
theorem lk_X8_11 : (Cond.methodLink RX8 11 yX2_init) ∈ TBw := tb_of 136 (by decide +kernel) (by decide +kernel)
theorem lk_X8_14 : (Cond.fieldLink RX8 14 "DredgeWays$Tides" "heights" "LDredgeWays$Numbers;") ∈ TBw := tb_of 137 (by decide +kernel) (by decide +kernel)
theorem lk_X9_107 : (Cond.fieldLink RX9 107 "DredgeWays$Tides" "heights" "LDredgeWays$Numbers;") ∈ TBw := tb_of 138 (by decide +kernel) (by decide +kernel)
theorem lk_X9_39 : (Cond.classLink RX9 39 RX6) ∈ TBw := tb_of 142 (by decide +kernel) (by decide +kernel)
theorem inst_X6 : (Cond.instantiable RX6 1) ∈ TBw := tb_of 143 (by decide +kernel) (by decide +kernel)
theorem nl_X9_41 : (Cond.methodLinkNest RX9 41 yX6_init RX9) ∈ lw_tbl := List.mem_of_getElem? (i := 144) (by decide +kernel)
theorem in_X6_init : (Cond.instanceMethod yX6_init) ∈ TBw := tb_of 145 (by decide +kernel) (by decide +kernel)
theorem co_X6_init : (Cond.code yX6_init cX6_init 1 none) ∈ TBw := tb_of 146 (by decide +kernel) (by decide +kernel)
theorem lk_X6_3 : (Cond.methodLink RX6 3 objectInit) ∈ TBw := tb_of 147 (by decide +kernel) (by decide +kernel)
theorem lk_X6_9 : (Cond.classLink RX6 9 RX2) ∈ TBw := tb_of 148 (by decide +kernel) (by decide +kernel)
theorem lk_X6_11 : (Cond.methodLink RX6 11 yX2_init) ∈ TBw := tb_of 149 (by decide +kernel) (by decide +kernel)
theorem lk_X6_14 : (Cond.fieldLink RX6 14 "DredgeWays$Ship" "table" "LDredgeWays$Numbers;") ∈ TBw := tb_of 150 (by decide +kernel) (by decide +kernel)
theorem lk_X9_141 : (Cond.fieldLink RX9 141 "DredgeWays$Ship" "table" "LDredgeWays$Numbers;") ∈ TBw := tb_of 151 (by decide +kernel) (by decide +kernel)
theorem lk_X9_46 : (Cond.classLink RX9 46 RX3) ∈ TBw := tb_of 155 (by decide +kernel) (by decide +kernel)
theorem inst_X3 : (Cond.instantiable RX3 4) ∈ TBw := tb_of 156 (by decide +kernel) (by decide +kernel)
theorem nl_X9_48 : (Cond.methodLinkNest RX9 48 yX3_init RX9) ∈ lw_tbl := List.mem_of_getElem? (i := 157) (by decide +kernel)
theorem in_X3_init : (Cond.instanceMethod yX3_init) ∈ TBw := tb_of 158 (by decide +kernel) (by decide +kernel)
theorem co_X3_init : (Cond.code yX3_init cX3_init 1 none) ∈ TBw := tb_of 159 (by decide +kernel) (by decide +kernel)
theorem lk_X3_3 : (Cond.methodLink RX3 3 objectInit) ∈ TBw := tb_of 160 (by decide +kernel) (by decide +kernel)
theorem lk_X3_9 : (Cond.classLink RX3 9 RX2) ∈ TBw := tb_of 161 (by decide +kernel) (by decide +kernel)
theorem lk_X3_11 : (Cond.methodLink RX3 11 yX2_init) ∈ TBw := tb_of 162 (by decide +kernel) (by decide +kernel)
theorem lk_X3_14 : (Cond.fieldLink RX3 14 "DredgeWays$Pass" "planned" "LDredgeWays$Numbers;") ∈ TBw := tb_of 163 (by decide +kernel) (by decide +kernel)
theorem lk_X3_23 : (Cond.fieldLink RX3 23 "DredgeWays$Pass" "row" "I") ∈ TBw := tb_of 164 (by decide +kernel) (by decide +kernel)
theorem lk_X3_27 : (Cond.fieldLink RX3 27 "DredgeWays$Pass" "load" "I") ∈ TBw := tb_of 165 (by decide +kernel) (by decide +kernel)
theorem lk_X9_148 : (Cond.fieldLink RX9 148 "DredgeWays$Pass" "load" "I") ∈ TBw := tb_of 166 (by decide +kernel) (by decide +kernel)
theorem lk_X3_36 : (Cond.fieldLink RX3 36 "DredgeWays$Pass" "last" "I") ∈ TBw := tb_of 167 (by decide +kernel) (by decide +kernel)
theorem lk_X9_259 : (Cond.fieldLink RX9 259 "DredgeWays$Pass" "last" "I") ∈ TBw := tb_of 168 (by decide +kernel) (by decide +kernel)
theorem lk_X9_53 : (Cond.classLink RX9 53 RX7) ∈ TBw := tb_of 178 (by decide +kernel) (by decide +kernel)
theorem inst_X7 : (Cond.instantiable RX7 3) ∈ TBw := tb_of 179 (by decide +kernel) (by decide +kernel)
theorem nl_X9_55 : (Cond.methodLinkNest RX9 55 yX7_init RX9) ∈ lw_tbl := List.mem_of_getElem? (i := 180) (by decide +kernel)
theorem in_X7_init : (Cond.instanceMethod yX7_init) ∈ TBw := tb_of 181 (by decide +kernel) (by decide +kernel)
theorem co_X7_init : (Cond.code yX7_init cX7_init 1 none) ∈ TBw := tb_of 182 (by decide +kernel) (by decide +kernel)
theorem lk_X7_3 : (Cond.methodLink RX7 3 objectInit) ∈ TBw := tb_of 183 (by decide +kernel) (by decide +kernel)
theorem lk_X7_9 : (Cond.classLink RX7 9 RX2) ∈ TBw := tb_of 184 (by decide +kernel) (by decide +kernel)
theorem lk_X7_11 : (Cond.methodLink RX7 11 yX2_init) ∈ TBw := tb_of 185 (by decide +kernel) (by decide +kernel)
theorem lk_X7_14 : (Cond.fieldLink RX7 14 "DredgeWays$Spots" "held" "LDredgeWays$Numbers;") ∈ TBw := tb_of 186 (by decide +kernel) (by decide +kernel)
theorem lk_X9_115 : (Cond.fieldLink RX9 115 "DredgeWays$Spots" "held" "LDredgeWays$Numbers;") ∈ TBw := tb_of 187 (by decide +kernel) (by decide +kernel)
theorem lk_X7_20 : (Cond.fieldLink RX7 20 "DredgeWays$Spots" "most" "LDredgeWays$Numbers;") ∈ TBw := tb_of 188 (by decide +kernel) (by decide +kernel)
theorem lk_X9_121 : (Cond.fieldLink RX9 121 "DredgeWays$Spots" "most" "LDredgeWays$Numbers;") ∈ TBw := tb_of 189 (by decide +kernel) (by decide +kernel)
theorem lk_X7_23 : (Cond.fieldLink RX7 23 "DredgeWays$Spots" "away" "LDredgeWays$Numbers;") ∈ TBw := tb_of 190 (by decide +kernel) (by decide +kernel)
theorem lk_X9_124 : (Cond.fieldLink RX9 124 "DredgeWays$Spots" "away" "LDredgeWays$Numbers;") ∈ TBw := tb_of 191 (by decide +kernel) (by decide +kernel)
theorem lk_X9_60 : (Cond.classLink RX9 60 RX4) ∈ TBw := tb_of 199 (by decide +kernel) (by decide +kernel)
theorem inst_X4 : (Cond.instantiable RX4 4) ∈ TBw := tb_of 200 (by decide +kernel) (by decide +kernel)
theorem nl_X9_62 : (Cond.methodLinkNest RX9 62 yX4_init RX9) ∈ lw_tbl := List.mem_of_getElem? (i := 201) (by decide +kernel)
theorem in_X4_init : (Cond.instanceMethod yX4_init) ∈ TBw := tb_of 202 (by decide +kernel) (by decide +kernel)
theorem co_X4_init : (Cond.code yX4_init cX4_init 1 none) ∈ TBw := tb_of 203 (by decide +kernel) (by decide +kernel)
theorem lk_X4_3 : (Cond.methodLink RX4 3 objectInit) ∈ TBw := tb_of 204 (by decide +kernel) (by decide +kernel)
theorem lk_X4_9 : (Cond.classLink RX4 9 RX2) ∈ TBw := tb_of 205 (by decide +kernel) (by decide +kernel)
theorem lk_X4_11 : (Cond.methodLink RX4 11 yX2_init) ∈ TBw := tb_of 206 (by decide +kernel) (by decide +kernel)
theorem lk_X4_14 : (Cond.fieldLink RX4 14 "DredgeWays$Posts" "places" "LDredgeWays$Numbers;") ∈ TBw := tb_of 207 (by decide +kernel) (by decide +kernel)
theorem lk_X4_20 : (Cond.fieldLink RX4 20 "DredgeWays$Posts" "limits" "LDredgeWays$Numbers;") ∈ TBw := tb_of 208 (by decide +kernel) (by decide +kernel)
theorem lk_X4_23 : (Cond.fieldLink RX4 23 "DredgeWays$Posts" "brokenHours" "LDredgeWays$Numbers;") ∈ TBw := tb_of 209 (by decide +kernel) (by decide +kernel)
theorem lk_X9_206 : (Cond.fieldLink RX9 206 "DredgeWays$Posts" "brokenHours" "LDredgeWays$Numbers;") ∈ TBw := tb_of 210 (by decide +kernel) (by decide +kernel)
theorem lk_X4_26 : (Cond.fieldLink RX4 26 "DredgeWays$Posts" "size" "I") ∈ TBw := tb_of 211 (by decide +kernel) (by decide +kernel)
theorem lk_X9_236 : (Cond.fieldLink RX9 236 "DredgeWays$Posts" "size" "I") ∈ TBw := tb_of 212 (by decide +kernel) (by decide +kernel)
theorem lk_X9_67 : (Cond.classLink RX9 67 RX5) ∈ TBw := tb_of 222 (by decide +kernel) (by decide +kernel)
theorem inst_X5 : (Cond.instantiable RX5 2) ∈ TBw := tb_of 223 (by decide +kernel) (by decide +kernel)
theorem nl_X9_69 : (Cond.methodLinkNest RX9 69 yX5_init RX9) ∈ lw_tbl := List.mem_of_getElem? (i := 224) (by decide +kernel)
theorem in_X5_init : (Cond.instanceMethod yX5_init) ∈ TBw := tb_of 225 (by decide +kernel) (by decide +kernel)
theorem co_X5_init : (Cond.code yX5_init cX5_init 1 none) ∈ TBw := tb_of 226 (by decide +kernel) (by decide +kernel)
theorem lk_X5_3 : (Cond.methodLink RX5 3 objectInit) ∈ TBw := tb_of 227 (by decide +kernel) (by decide +kernel)
theorem lk_X5_9 : (Cond.classLink RX5 9 RX2) ∈ TBw := tb_of 228 (by decide +kernel) (by decide +kernel)
theorem lk_X5_11 : (Cond.methodLink RX5 11 yX2_init) ∈ TBw := tb_of 229 (by decide +kernel) (by decide +kernel)
theorem lk_X5_14 : (Cond.fieldLink RX5 14 "DredgeWays$Sheets" "depths" "LDredgeWays$Numbers;") ∈ TBw := tb_of 230 (by decide +kernel) (by decide +kernel)
theorem lk_X5_20 : (Cond.fieldLink RX5 20 "DredgeWays$Sheets" "taken" "LDredgeWays$Numbers;") ∈ TBw := tb_of 231 (by decide +kernel) (by decide +kernel)
theorem lk_X9_74 : (Cond.methodLink RX9 74 yX9_startAnew) ∈ TBw := tb_of 237 (by decide +kernel) (by decide +kernel)
theorem in_X9_startAnew : (Cond.instanceMethod yX9_startAnew) ∈ TBw := tb_of 239 (by decide +kernel) (by decide +kernel)
theorem co_X9_startAnew : (Cond.code yX9_startAnew cX9_startAnew 3 none) ∈ TBw := tb_of 240 (by decide +kernel) (by decide +kernel)
theorem lk_X9_238 : (Cond.methodLink RX9 238 yX1_start) ∈ TBw := tb_of 241 (by decide +kernel) (by decide +kernel)
theorem in_X1_start : (Cond.instanceMethod yX1_start) ∈ TBw := tb_of 242 (by decide +kernel) (by decide +kernel)
theorem se_X1_start : (Cond.selects RX1 yX1_start yX1_start) ∈ TBw := tb_of 243 (by decide +kernel) (by decide +kernel)
theorem co_X1_start : (Cond.code yX1_start cX1_start 3 none) ∈ TBw := tb_of 244 (by decide +kernel) (by decide +kernel)
theorem lk_X1_36 : (Cond.methodLink RX1 36 yX2_fill) ∈ TBw := tb_of 245 (by decide +kernel) (by decide +kernel)
theorem in_X2_fill : (Cond.instanceMethod yX2_fill) ∈ TBw := tb_of 246 (by decide +kernel) (by decide +kernel)
theorem se_X2_fill : (Cond.selects RX2 yX2_fill yX2_fill) ∈ TBw := tb_of 247 (by decide +kernel) (by decide +kernel)
theorem co_X2_fill : (Cond.code yX2_fill cX2_fill 3 none) ∈ TBw := tb_of 248 (by decide +kernel) (by decide +kernel)
theorem lk_X9_241 : (Cond.methodLink RX9 241 yX0_start) ∈ TBw := tb_of 249 (by decide +kernel) (by decide +kernel)
theorem in_X0_start : (Cond.instanceMethod yX0_start) ∈ TBw := tb_of 250 (by decide +kernel) (by decide +kernel)
theorem se_X0_start : (Cond.selects RX0 yX0_start yX0_start) ∈ TBw := tb_of 251 (by decide +kernel) (by decide +kernel)
theorem co_X0_start : (Cond.code yX0_start cX0_start 1 none) ∈ TBw := tb_of 252 (by decide +kernel) (by decide +kernel)
theorem lk_X0_26 : (Cond.methodLink RX0 26 yX2_fill) ∈ TBw := tb_of 253 (by decide +kernel) (by decide +kernel)
theorem lk_X9_243 : (Cond.methodLink RX9 243 yX2_fill) ∈ TBw := tb_of 254 (by decide +kernel) (by decide +kernel)
theorem lk_X9_246 : (Cond.methodLink RX9 246 yX6_start) ∈ TBw := tb_of 255 (by decide +kernel) (by decide +kernel)
theorem in_X6_start : (Cond.instanceMethod yX6_start) ∈ TBw := tb_of 256 (by decide +kernel) (by decide +kernel)
theorem se_X6_start : (Cond.selects RX6 yX6_start yX6_start) ∈ TBw := tb_of 257 (by decide +kernel) (by decide +kernel)
theorem co_X6_start : (Cond.code yX6_start cX6_start 2 none) ∈ TBw := tb_of 258 (by decide +kernel) (by decide +kernel)
theorem lk_X6_20 : (Cond.methodLink RX6 20 yX2_put) ∈ TBw := tb_of 259 (by decide +kernel) (by decide +kernel)
theorem in_X2_put : (Cond.instanceMethod yX2_put) ∈ TBw := tb_of 260 (by decide +kernel) (by decide +kernel)
theorem se_X2_put : (Cond.selects RX2 yX2_put yX2_put) ∈ TBw := tb_of 261 (by decide +kernel) (by decide +kernel)
theorem co_X2_put : (Cond.code yX2_put cX2_put 4 (some .int)) ∈ TBw := tb_of 262 (by decide +kernel) (by decide +kernel)
theorem lk_X9_247 : (Cond.methodLink RX9 247 yX7_start) ∈ TBw := tb_of 263 (by decide +kernel) (by decide +kernel)
theorem in_X7_start : (Cond.instanceMethod yX7_start) ∈ TBw := tb_of 264 (by decide +kernel) (by decide +kernel)
theorem se_X7_start : (Cond.selects RX7 yX7_start yX7_start) ∈ TBw := tb_of 265 (by decide +kernel) (by decide +kernel)
theorem co_X7_start : (Cond.code yX7_start cX7_start 1 none) ∈ TBw := tb_of 266 (by decide +kernel) (by decide +kernel)
theorem lk_X7_26 : (Cond.methodLink RX7 26 yX2_fill) ∈ TBw := tb_of 267 (by decide +kernel) (by decide +kernel)
theorem lk_X9_248 : (Cond.methodLink RX9 248 yX5_start) ∈ TBw := tb_of 268 (by decide +kernel) (by decide +kernel)
theorem in_X5_start : (Cond.instanceMethod yX5_start) ∈ TBw := tb_of 269 (by decide +kernel) (by decide +kernel)
theorem se_X5_start : (Cond.selects RX5 yX5_start yX5_start) ∈ TBw := tb_of 270 (by decide +kernel) (by decide +kernel)
theorem co_X5_start : (Cond.code yX5_start cX5_start 1 none) ∈ TBw := tb_of 271 (by decide +kernel) (by decide +kernel)
theorem lk_X5_23 : (Cond.methodLink RX5 23 yX2_fill) ∈ TBw := tb_of 272 (by decide +kernel) (by decide +kernel)
theorem lk_X9_249 : (Cond.methodLink RX9 249 yX9_startRules) ∈ TBw := tb_of 273 (by decide +kernel) (by decide +kernel)
theorem in_X9_startRules : (Cond.instanceMethod yX9_startRules) ∈ TBw := tb_of 275 (by decide +kernel) (by decide +kernel)
theorem co_X9_startRules : (Cond.code yX9_startRules cX9_startRules 1 none) ∈ TBw := tb_of 276 (by decide +kernel) (by decide +kernel)
theorem lk_X9_93 : (Cond.methodLink RX9 93 yX2_put) ∈ TBw := tb_of 277 (by decide +kernel) (by decide +kernel)
theorem lk_X9_14 : (Cond.fieldLink RX9 14 "DredgeWays" "rules" "LDredgeWays$Numbers;") ∈ TBw := tb_of 278 (by decide +kernel) (by decide +kernel)
theorem lk_X9_21 : (Cond.fieldLink RX9 21 "DredgeWays" "ground" "LDredgeWays$Ground;") ∈ TBw := tb_of 279 (by decide +kernel) (by decide +kernel)
theorem lk_X9_28 : (Cond.fieldLink RX9 28 "DredgeWays" "clouds" "LDredgeWays$Clouds;") ∈ TBw := tb_of 280 (by decide +kernel) (by decide +kernel)
theorem lk_X9_35 : (Cond.fieldLink RX9 35 "DredgeWays" "tides" "LDredgeWays$Tides;") ∈ TBw := tb_of 281 (by decide +kernel) (by decide +kernel)
theorem lk_X9_42 : (Cond.fieldLink RX9 42 "DredgeWays" "ship" "LDredgeWays$Ship;") ∈ TBw := tb_of 282 (by decide +kernel) (by decide +kernel)
theorem lk_X9_49 : (Cond.fieldLink RX9 49 "DredgeWays" "pass" "LDredgeWays$Pass;") ∈ TBw := tb_of 283 (by decide +kernel) (by decide +kernel)
theorem lk_X9_56 : (Cond.fieldLink RX9 56 "DredgeWays" "spots" "LDredgeWays$Spots;") ∈ TBw := tb_of 284 (by decide +kernel) (by decide +kernel)
theorem lk_X9_63 : (Cond.fieldLink RX9 63 "DredgeWays" "posts" "LDredgeWays$Posts;") ∈ TBw := tb_of 285 (by decide +kernel) (by decide +kernel)
theorem lk_X9_70 : (Cond.fieldLink RX9 70 "DredgeWays" "sheets" "LDredgeWays$Sheets;") ∈ TBw := tb_of 286 (by decide +kernel) (by decide +kernel)
theorem lk_X9_162 : (Cond.fieldLink RX9 162 "DredgeWays" "hour" "I") ∈ TBw := tb_of 287 (by decide +kernel) (by decide +kernel)
theorem lk_X9_215 : (Cond.fieldLink RX9 215 "DredgeWays" "trips" "I") ∈ TBw := tb_of 288 (by decide +kernel) (by decide +kernel)
theorem lk_X9_218 : (Cond.fieldLink RX9 218 "DredgeWays" "dug" "I") ∈ TBw := tb_of 289 (by decide +kernel) (by decide +kernel)
theorem lk_L_13 : (Cond.methodLink RL 13 yX9_board) ∈ TBw := tb_of 315 (by decide +kernel) (by decide +kernel)
theorem in_X9_board : (Cond.instanceMethod yX9_board) ∈ TBw := tb_of 316 (by decide +kernel) (by decide +kernel)
theorem se_X9_board : (Cond.selects RX9 yX9_board yX9_board) ∈ TBw := tb_of 317 (by decide +kernel) (by decide +kernel)
theorem co_X9_board : (Cond.code yX9_board cX9_board 3 (some .int)) ∈ TBw := tb_of 318 (by decide +kernel) (by decide +kernel)
theorem lk_X9_78 : (Cond.methodLink RX9 78 yX9_within) ∈ TBw := tb_of 319 (by decide +kernel) (by decide +kernel)
theorem sta_X9_within : (Cond.static yX9_within) ∈ TBw := tb_of 320 (by decide +kernel) (by decide +kernel)
theorem co_X9_within : (Cond.code yX9_within cX9_within 3 (some .boolean)) ∈ TBw := tb_of 321 (by decide +kernel) (by decide +kernel)
theorem lk_X9_82 : (Cond.methodLink RX9 82 yX1_size) ∈ TBw := tb_of 322 (by decide +kernel) (by decide +kernel)
theorem in_X1_size : (Cond.instanceMethod yX1_size) ∈ TBw := tb_of 323 (by decide +kernel) (by decide +kernel)
theorem se_X1_size : (Cond.selects RX1 yX1_size yX1_size) ∈ TBw := tb_of 324 (by decide +kernel) (by decide +kernel)
theorem co_X1_size : (Cond.code yX1_size cX1_size 1 (some .int)) ∈ TBw := tb_of 325 (by decide +kernel) (by decide +kernel)
theorem lk_L_18 : (Cond.methodLink RL 18 yX9_lay) ∈ TBw := tb_of 326 (by decide +kernel) (by decide +kernel)
theorem in_X9_lay : (Cond.instanceMethod yX9_lay) ∈ TBw := tb_of 327 (by decide +kernel) (by decide +kernel)
theorem se_X9_lay : (Cond.selects RX9 yX9_lay yX9_lay) ∈ TBw := tb_of 328 (by decide +kernel) (by decide +kernel)
theorem co_X9_lay : (Cond.code yX9_lay cX9_lay 4 (some .int)) ∈ TBw := tb_of 329 (by decide +kernel) (by decide +kernel)
theorem lk_X9_86 : (Cond.methodLink RX9 86 yX1_has) ∈ TBw := tb_of 330 (by decide +kernel) (by decide +kernel)
theorem in_X1_has : (Cond.instanceMethod yX1_has) ∈ TBw := tb_of 331 (by decide +kernel) (by decide +kernel)
theorem se_X1_has : (Cond.selects RX1 yX1_has yX1_has) ∈ TBw := tb_of 332 (by decide +kernel) (by decide +kernel)
theorem co_X1_has : (Cond.code yX1_has cX1_has 2 (some .boolean)) ∈ TBw := tb_of 333 (by decide +kernel) (by decide +kernel)
theorem lk_X1_39 : (Cond.methodLink RX1 39 yX1_size) ∈ TBw := tb_of 334 (by decide +kernel) (by decide +kernel)
theorem nl_X1_43 : (Cond.methodLinkNest RX1 43 yX9_within RX9) ∈ lw_tbl := List.mem_of_getElem? (i := 335) (by decide +kernel)
theorem lk_L_23 : (Cond.methodLink RL 23 yX9_rule) ∈ TBw := tb_of 336 (by decide +kernel) (by decide +kernel)
theorem in_X9_rule : (Cond.instanceMethod yX9_rule) ∈ TBw := tb_of 337 (by decide +kernel) (by decide +kernel)
theorem se_X9_rule : (Cond.selects RX9 yX9_rule yX9_rule) ∈ TBw := tb_of 338 (by decide +kernel) (by decide +kernel)
theorem co_X9_rule : (Cond.code yX9_rule cX9_rule 3 (some .int)) ∈ TBw := tb_of 339 (by decide +kernel) (by decide +kernel)
theorem lk_X9_100 : (Cond.methodLink RX9 100 yX9_leastOfRule) ∈ TBw := tb_of 340 (by decide +kernel) (by decide +kernel)
theorem sta_X9_leastOfRule : (Cond.static yX9_leastOfRule) ∈ TBw := tb_of 341 (by decide +kernel) (by decide +kernel)
theorem co_X9_leastOfRule : (Cond.code yX9_leastOfRule cX9_leastOfRule 1 (some .int)) ∈ TBw := tb_of 342 (by decide +kernel) (by decide +kernel)
theorem lk_X9_104 : (Cond.methodLink RX9 104 yX9_mostOfRule) ∈ TBw := tb_of 343 (by decide +kernel) (by decide +kernel)
theorem sta_X9_mostOfRule : (Cond.static yX9_mostOfRule) ∈ TBw := tb_of 344 (by decide +kernel) (by decide +kernel)
theorem co_X9_mostOfRule : (Cond.code yX9_mostOfRule cX9_mostOfRule 1 (some .int)) ∈ TBw := tb_of 345 (by decide +kernel) (by decide +kernel)
theorem lk_L_27 : (Cond.methodLink RL 27 yX9_tide) ∈ TBw := tb_of 346 (by decide +kernel) (by decide +kernel)
theorem in_X9_tide : (Cond.instanceMethod yX9_tide) ∈ TBw := tb_of 347 (by decide +kernel) (by decide +kernel)
theorem se_X9_tide : (Cond.selects RX9 yX9_tide yX9_tide) ∈ TBw := tb_of 348 (by decide +kernel) (by decide +kernel)
theorem co_X9_tide : (Cond.code yX9_tide cX9_tide 3 (some .int)) ∈ TBw := tb_of 349 (by decide +kernel) (by decide +kernel)
theorem lk_L_31 : (Cond.methodLink RL 31 yX9_hold) ∈ TBw := tb_of 350 (by decide +kernel) (by decide +kernel)
theorem in_X9_hold : (Cond.instanceMethod yX9_hold) ∈ TBw := tb_of 351 (by decide +kernel) (by decide +kernel)
theorem se_X9_hold : (Cond.selects RX9 yX9_hold yX9_hold) ∈ TBw := tb_of 352 (by decide +kernel) (by decide +kernel)
theorem co_X9_hold : (Cond.code yX9_hold cX9_hold 3 (some .int)) ∈ TBw := tb_of 353 (by decide +kernel) (by decide +kernel)
theorem lk_X9_110 : (Cond.methodLink RX9 110 yX6_setTable) ∈ TBw := tb_of 354 (by decide +kernel) (by decide +kernel)
theorem in_X6_setTable : (Cond.instanceMethod yX6_setTable) ∈ TBw := tb_of 355 (by decide +kernel) (by decide +kernel)
theorem se_X6_setTable : (Cond.selects RX6 yX6_setTable yX6_setTable) ∈ TBw := tb_of 356 (by decide +kernel) (by decide +kernel)
theorem co_X6_setTable : (Cond.code yX6_setTable cX6_setTable 5 (some .int)) ∈ TBw := tb_of 357 (by decide +kernel) (by decide +kernel)
theorem lk_X6_24 : (Cond.methodLink RX6 24 yX2_get) ∈ TBw := tb_of 358 (by decide +kernel) (by decide +kernel)
theorem in_X2_get : (Cond.instanceMethod yX2_get) ∈ TBw := tb_of 359 (by decide +kernel) (by decide +kernel)
theorem se_X2_get : (Cond.selects RX2 yX2_get yX2_get) ∈ TBw := tb_of 360 (by decide +kernel) (by decide +kernel)
theorem co_X2_get : (Cond.code yX2_get cX2_get 2 (some .int)) ∈ TBw := tb_of 361 (by decide +kernel) (by decide +kernel)
theorem lk_X6_28 : (Cond.methodLink RX6 28 Lib.Math.min.name) ∈ TBw := tb_of 362 (by decide +kernel) (by decide +kernel)
theorem sta_min : (Cond.static Lib.Math.min.name) ∈ TBw := tb_of 363 (by decide +kernel) (by decide +kernel)
theorem co_min : (Cond.code Lib.Math.min.name Lib.Math.min.code 2 (some .int)) ∈ TBw := tb_of 364 (by decide +kernel) (by decide +kernel)
theorem lk_X6_33 : (Cond.methodLink RX6 33 Lib.Math.max.name) ∈ TBw := tb_of 365 (by decide +kernel) (by decide +kernel)
theorem lk_L_35 : (Cond.methodLink RL 35 yX9_spot) ∈ TBw := tb_of 366 (by decide +kernel) (by decide +kernel)
theorem in_X9_spot : (Cond.instanceMethod yX9_spot) ∈ TBw := tb_of 367 (by decide +kernel) (by decide +kernel)
theorem se_X9_spot : (Cond.selects RX9 yX9_spot yX9_spot) ∈ TBw := tb_of 368 (by decide +kernel) (by decide +kernel)
theorem co_X9_spot : (Cond.code yX9_spot cX9_spot 4 (some .int)) ∈ TBw := tb_of 369 (by decide +kernel) (by decide +kernel)
theorem lk_X9_113 : (Cond.methodLink RX9 113 yX7_has) ∈ TBw := tb_of 370 (by decide +kernel) (by decide +kernel)
theorem in_X7_has : (Cond.instanceMethod yX7_has) ∈ TBw := tb_of 371 (by decide +kernel) (by decide +kernel)
theorem se_X7_has : (Cond.selects RX7 yX7_has yX7_has) ∈ TBw := tb_of 372 (by decide +kernel) (by decide +kernel)
theorem co_X7_has : (Cond.code yX7_has cX7_has 2 (some .boolean)) ∈ TBw := tb_of 373 (by decide +kernel) (by decide +kernel)
theorem nl_X7_29 : (Cond.methodLinkNest RX7 29 yX9_within RX9) ∈ lw_tbl := List.mem_of_getElem? (i := 374) (by decide +kernel)
theorem lk_X9_114 : (Cond.constant RX9 114 (100000)) ∈ TBw := tb_of 375 (by decide +kernel) (by decide +kernel)
theorem lk_X9_118 : (Cond.methodLink RX9 118 yX2_get) ∈ TBw := tb_of 376 (by decide +kernel) (by decide +kernel)
theorem lk_L_39 : (Cond.methodLink RL 39 yX9_post) ∈ TBw := tb_of 377 (by decide +kernel) (by decide +kernel)
theorem in_X9_post : (Cond.instanceMethod yX9_post) ∈ TBw := tb_of 378 (by decide +kernel) (by decide +kernel)
theorem se_X9_post : (Cond.selects RX9 yX9_post yX9_post) ∈ TBw := tb_of 379 (by decide +kernel) (by decide +kernel)
theorem co_X9_post : (Cond.code yX9_post cX9_post 3 (some .int)) ∈ TBw := tb_of 380 (by decide +kernel) (by decide +kernel)
theorem lk_X9_127 : (Cond.methodLink RX9 127 yX4_isFull) ∈ TBw := tb_of 381 (by decide +kernel) (by decide +kernel)
theorem in_X4_isFull : (Cond.instanceMethod yX4_isFull) ∈ TBw := tb_of 382 (by decide +kernel) (by decide +kernel)
theorem se_X4_isFull : (Cond.selects RX4 yX4_isFull yX4_isFull) ∈ TBw := tb_of 383 (by decide +kernel) (by decide +kernel)
theorem co_X4_isFull : (Cond.code yX4_isFull cX4_isFull 1 (some .boolean)) ∈ TBw := tb_of 384 (by decide +kernel) (by decide +kernel)
theorem lk_X9_131 : (Cond.methodLink RX9 131 yX4_put) ∈ TBw := tb_of 385 (by decide +kernel) (by decide +kernel)
theorem in_X4_put : (Cond.instanceMethod yX4_put) ∈ TBw := tb_of 386 (by decide +kernel) (by decide +kernel)
theorem se_X4_put : (Cond.selects RX4 yX4_put yX4_put) ∈ TBw := tb_of 387 (by decide +kernel) (by decide +kernel)
theorem co_X4_put : (Cond.code yX4_put cX4_put 3 (some .int)) ∈ TBw := tb_of 388 (by decide +kernel) (by decide +kernel)
theorem lk_X4_34 : (Cond.methodLink RX4 34 yX2_put) ∈ TBw := tb_of 389 (by decide +kernel) (by decide +kernel)
theorem lk_L_43 : (Cond.methodLink RL 43 yX9_best) ∈ TBw := tb_of 390 (by decide +kernel) (by decide +kernel)
theorem in_X9_best : (Cond.instanceMethod yX9_best) ∈ TBw := tb_of 391 (by decide +kernel) (by decide +kernel)
theorem se_X9_best : (Cond.selects RX9 yX9_best yX9_best) ∈ TBw := tb_of 392 (by decide +kernel) (by decide +kernel)
theorem co_X9_best : (Cond.code yX9_best cX9_best 2 (some .int)) ∈ TBw := tb_of 393 (by decide +kernel) (by decide +kernel)
theorem lk_X9_132 : (Cond.methodLink RX9 132 yX6_bestMinutes) ∈ TBw := tb_of 394 (by decide +kernel) (by decide +kernel)
theorem in_X6_bestMinutes : (Cond.instanceMethod yX6_bestMinutes) ∈ TBw := tb_of 395 (by decide +kernel) (by decide +kernel)
theorem se_X6_bestMinutes : (Cond.selects RX6 yX6_bestMinutes yX6_bestMinutes) ∈ TBw := tb_of 396 (by decide +kernel) (by decide +kernel)
theorem co_X6_bestMinutes : (Cond.code yX6_bestMinutes cX6_bestMinutes 5 (some .int)) ∈ TBw := tb_of 397 (by decide +kernel) (by decide +kernel)
theorem lk_L_48 : (Cond.methodLink RL 48 yX9_trip) ∈ TBw := tb_of 398 (by decide +kernel) (by decide +kernel)
theorem in_X9_trip : (Cond.instanceMethod yX9_trip) ∈ TBw := tb_of 399 (by decide +kernel) (by decide +kernel)
theorem se_X9_trip : (Cond.selects RX9 yX9_trip yX9_trip) ∈ TBw := tb_of 400 (by decide +kernel) (by decide +kernel)
theorem co_X9_trip : (Cond.code yX9_trip cX9_trip 7 (some .int)) ∈ TBw := tb_of 401 (by decide +kernel) (by decide +kernel)
theorem lk_X9_135 : (Cond.methodLink RX9 135 yX1_hasRow) ∈ TBw := tb_of 402 (by decide +kernel) (by decide +kernel)
theorem in_X1_hasRow : (Cond.instanceMethod yX1_hasRow) ∈ TBw := tb_of 403 (by decide +kernel) (by decide +kernel)
theorem se_X1_hasRow : (Cond.selects RX1 yX1_hasRow yX1_hasRow) ∈ TBw := tb_of 404 (by decide +kernel) (by decide +kernel)
theorem co_X1_hasRow : (Cond.code yX1_hasRow cX1_hasRow 2 (some .boolean)) ∈ TBw := tb_of 405 (by decide +kernel) (by decide +kernel)
theorem lk_X9_138 : (Cond.methodLink RX9 138 yX1_hasColumn) ∈ TBw := tb_of 406 (by decide +kernel) (by decide +kernel)
theorem in_X1_hasColumn : (Cond.instanceMethod yX1_hasColumn) ∈ TBw := tb_of 407 (by decide +kernel) (by decide +kernel)
theorem se_X1_hasColumn : (Cond.selects RX1 yX1_hasColumn yX1_hasColumn) ∈ TBw := tb_of 408 (by decide +kernel) (by decide +kernel)
theorem co_X1_hasColumn : (Cond.code yX1_hasColumn cX1_hasColumn 2 (some .boolean)) ∈ TBw := tb_of 409 (by decide +kernel) (by decide +kernel)
theorem lk_X9_144 : (Cond.methodLink RX9 144 yX3_plan) ∈ TBw := tb_of 410 (by decide +kernel) (by decide +kernel)
theorem in_X3_plan : (Cond.instanceMethod yX3_plan) ∈ TBw := tb_of 411 (by decide +kernel) (by decide +kernel)
theorem se_X3_plan : (Cond.selects RX3 yX3_plan yX3_plan) ∈ TBw := tb_of 412 (by decide +kernel) (by decide +kernel)
theorem co_X3_plan : (Cond.code yX3_plan cX3_plan 9 none) ∈ TBw := tb_of 413 (by decide +kernel) (by decide +kernel)
theorem lk_X3_20 : (Cond.methodLink RX3 20 yX2_fill) ∈ TBw := tb_of 414 (by decide +kernel) (by decide +kernel)
theorem lk_X3_30 : (Cond.methodLink RX3 30 yX1_number) ∈ TBw := tb_of 415 (by decide +kernel) (by decide +kernel)
theorem in_X1_number : (Cond.instanceMethod yX1_number) ∈ TBw := tb_of 416 (by decide +kernel) (by decide +kernel)
theorem se_X1_number : (Cond.selects RX1 yX1_number yX1_number) ∈ TBw := tb_of 417 (by decide +kernel) (by decide +kernel)
theorem co_X1_number : (Cond.code yX1_number cX1_number 3 (some .int)) ∈ TBw := tb_of 418 (by decide +kernel) (by decide +kernel)
theorem lk_X3_39 : (Cond.methodLink RX3 39 yX3_planRun) ∈ TBw := tb_of 419 (by decide +kernel) (by decide +kernel)
theorem in_X3_planRun : (Cond.instanceMethod yX3_planRun) ∈ TBw := tb_of 421 (by decide +kernel) (by decide +kernel)
theorem co_X3_planRun : (Cond.code yX3_planRun cX3_planRun 10 (some .boolean)) ∈ TBw := tb_of 422 (by decide +kernel) (by decide +kernel)
theorem lk_X3_43 : (Cond.methodLink RX3 43 Lib.Math.abs.name) ∈ TBw := tb_of 423 (by decide +kernel) (by decide +kernel)
theorem sta_abs : (Cond.static Lib.Math.abs.name) ∈ TBw := tb_of 424 (by decide +kernel) (by decide +kernel)
theorem co_abs : (Cond.code Lib.Math.abs.name Lib.Math.abs.code 1 (some .int)) ∈ TBw := tb_of 425 (by decide +kernel) (by decide +kernel)
theorem lk_X3_49 : (Cond.methodLink RX3 49 yX3_planCell) ∈ TBw := tb_of 426 (by decide +kernel) (by decide +kernel)
theorem in_X3_planCell : (Cond.instanceMethod yX3_planCell) ∈ TBw := tb_of 428 (by decide +kernel) (by decide +kernel)
theorem co_X3_planCell : (Cond.code yX3_planCell cX3_planCell 5 none) ∈ TBw := tb_of 429 (by decide +kernel) (by decide +kernel)
theorem lk_X3_53 : (Cond.methodLink RX3 53 yX2_get) ∈ TBw := tb_of 430 (by decide +kernel) (by decide +kernel)
theorem lk_X3_56 : (Cond.methodLink RX3 56 yX1_room) ∈ TBw := tb_of 431 (by decide +kernel) (by decide +kernel)
theorem in_X1_room : (Cond.instanceMethod yX1_room) ∈ TBw := tb_of 432 (by decide +kernel) (by decide +kernel)
theorem se_X1_room : (Cond.selects RX1 yX1_room yX1_room) ∈ TBw := tb_of 433 (by decide +kernel) (by decide +kernel)
theorem co_X1_room : (Cond.code yX1_room cX1_room 3 (some .int)) ∈ TBw := tb_of 434 (by decide +kernel) (by decide +kernel)
theorem lk_X1_47 : (Cond.methodLink RX1 47 yX2_get) ∈ TBw := tb_of 435 (by decide +kernel) (by decide +kernel)
theorem lk_X1_51 : (Cond.methodLink RX1 51 Lib.Math.max.name) ∈ TBw := tb_of 436 (by decide +kernel) (by decide +kernel)
theorem lk_X3_59 : (Cond.methodLink RX3 59 yX2_add) ∈ TBw := tb_of 437 (by decide +kernel) (by decide +kernel)
theorem in_X2_add : (Cond.instanceMethod yX2_add) ∈ TBw := tb_of 438 (by decide +kernel) (by decide +kernel)
theorem se_X2_add : (Cond.selects RX2 yX2_add yX2_add) ∈ TBw := tb_of 439 (by decide +kernel) (by decide +kernel)
theorem co_X2_add : (Cond.code yX2_add cX2_add 3 none) ∈ TBw := tb_of 440 (by decide +kernel) (by decide +kernel)
theorem lk_X2_19 : (Cond.methodLink RX2 19 yX2_get) ∈ TBw := tb_of 441 (by decide +kernel) (by decide +kernel)
theorem lk_X2_23 : (Cond.methodLink RX2 23 yX2_put) ∈ TBw := tb_of 442 (by decide +kernel) (by decide +kernel)
theorem lk_X9_152 : (Cond.methodLink RX9 152 yX7_hasRoom) ∈ TBw := tb_of 443 (by decide +kernel) (by decide +kernel)
theorem in_X7_hasRoom : (Cond.instanceMethod yX7_hasRoom) ∈ TBw := tb_of 444 (by decide +kernel) (by decide +kernel)
theorem se_X7_hasRoom : (Cond.selects RX7 yX7_hasRoom yX7_hasRoom) ∈ TBw := tb_of 445 (by decide +kernel) (by decide +kernel)
theorem co_X7_hasRoom : (Cond.code yX7_hasRoom cX7_hasRoom 3 (some .boolean)) ∈ TBw := tb_of 446 (by decide +kernel) (by decide +kernel)
theorem lk_X7_33 : (Cond.methodLink RX7 33 yX2_get) ∈ TBw := tb_of 447 (by decide +kernel) (by decide +kernel)
theorem lk_X9_156 : (Cond.methodLink RX9 156 yX9_homeHour) ∈ TBw := tb_of 448 (by decide +kernel) (by decide +kernel)
theorem in_X9_homeHour : (Cond.instanceMethod yX9_homeHour) ∈ TBw := tb_of 450 (by decide +kernel) (by decide +kernel)
theorem co_X9_homeHour : (Cond.code yX9_homeHour cX9_homeHour 6 (some .int)) ∈ TBw := tb_of 451 (by decide +kernel) (by decide +kernel)
theorem lk_X9_252 : (Cond.methodLink RX9 252 yX8_firstEnough) ∈ TBw := tb_of 452 (by decide +kernel) (by decide +kernel)
theorem in_X8_firstEnough : (Cond.instanceMethod yX8_firstEnough) ∈ TBw := tb_of 453 (by decide +kernel) (by decide +kernel)
theorem se_X8_firstEnough : (Cond.selects RX8 yX8_firstEnough yX8_firstEnough) ∈ TBw := tb_of 454 (by decide +kernel) (by decide +kernel)
theorem co_X8_firstEnough : (Cond.code yX8_firstEnough cX8_firstEnough 4 (some .int)) ∈ TBw := tb_of 455 (by decide +kernel) (by decide +kernel)
theorem lk_X8_20 : (Cond.methodLink RX8 20 yX2_get) ∈ TBw := tb_of 456 (by decide +kernel) (by decide +kernel)
theorem lk_X9_159 : (Cond.methodLink RX9 159 yX9_carryOut) ∈ TBw := tb_of 457 (by decide +kernel) (by decide +kernel)
theorem in_X9_carryOut : (Cond.instanceMethod yX9_carryOut) ∈ TBw := tb_of 459 (by decide +kernel) (by decide +kernel)
theorem co_X9_carryOut : (Cond.code yX9_carryOut cX9_carryOut 3 none) ∈ TBw := tb_of 460 (by decide +kernel) (by decide +kernel)
theorem lk_X9_255 : (Cond.methodLink RX9 255 yX3_digPlanned) ∈ TBw := tb_of 461 (by decide +kernel) (by decide +kernel)
theorem in_X3_digPlanned : (Cond.instanceMethod yX3_digPlanned) ∈ TBw := tb_of 462 (by decide +kernel) (by decide +kernel)
theorem se_X3_digPlanned : (Cond.selects RX3 yX3_digPlanned yX3_digPlanned) ∈ TBw := tb_of 463 (by decide +kernel) (by decide +kernel)
theorem co_X3_digPlanned : (Cond.code yX3_digPlanned cX3_digPlanned 3 none) ∈ TBw := tb_of 464 (by decide +kernel) (by decide +kernel)
theorem lk_X9_262 : (Cond.methodLink RX9 262 Lib.Math.max.name) ∈ TBw := tb_of 465 (by decide +kernel) (by decide +kernel)
theorem lk_X9_267 : (Cond.methodLink RX9 267 yX0_come) ∈ TBw := tb_of 466 (by decide +kernel) (by decide +kernel)
theorem in_X0_come : (Cond.instanceMethod yX0_come) ∈ TBw := tb_of 467 (by decide +kernel) (by decide +kernel)
theorem se_X0_come : (Cond.selects RX0 yX0_come yX0_come) ∈ TBw := tb_of 468 (by decide +kernel) (by decide +kernel)
theorem co_X0_come : (Cond.code yX0_come cX0_come 3 none) ∈ TBw := tb_of 469 (by decide +kernel) (by decide +kernel)
theorem lk_X0_39 : (Cond.methodLink RX0 39 yX2_add) ∈ TBw := tb_of 470 (by decide +kernel) (by decide +kernel)
theorem lk_X9_270 : (Cond.methodLink RX9 270 yX2_add) ∈ TBw := tb_of 471 (by decide +kernel) (by decide +kernel)
theorem lk_X9_165 : (Cond.methodLink RX9 165 yX9_passHours) ∈ TBw := tb_of 472 (by decide +kernel) (by decide +kernel)
theorem in_X9_passHours : (Cond.instanceMethod yX9_passHours) ∈ TBw := tb_of 474 (by decide +kernel) (by decide +kernel)
theorem co_X9_passHours : (Cond.code yX9_passHours cX9_passHours 3 none) ∈ TBw := tb_of 475 (by decide +kernel) (by decide +kernel)
theorem lk_X9_273 : (Cond.methodLink RX9 273 yX9_endHour) ∈ TBw := tb_of 476 (by decide +kernel) (by decide +kernel)
theorem in_X9_endHour : (Cond.instanceMethod yX9_endHour) ∈ TBw := tb_of 478 (by decide +kernel) (by decide +kernel)
theorem co_X9_endHour : (Cond.code yX9_endHour cX9_endHour 1 none) ∈ TBw := tb_of 479 (by decide +kernel) (by decide +kernel)
theorem lk_X9_276 : (Cond.methodLink RX9 276 yX0_drift) ∈ TBw := tb_of 480 (by decide +kernel) (by decide +kernel)
theorem in_X0_drift : (Cond.instanceMethod yX0_drift) ∈ TBw := tb_of 481 (by decide +kernel) (by decide +kernel)
theorem se_X0_drift : (Cond.selects RX0 yX0_drift yX0_drift) ∈ TBw := tb_of 482 (by decide +kernel) (by decide +kernel)
theorem co_X0_drift : (Cond.code yX0_drift cX0_drift 8 none) ∈ TBw := tb_of 483 (by decide +kernel) (by decide +kernel)
theorem lk_X0_51 : (Cond.methodLink RX0 51 yX1_number) ∈ TBw := tb_of 484 (by decide +kernel) (by decide +kernel)
theorem lk_X0_55 : (Cond.methodLink RX0 55 yX2_get) ∈ TBw := tb_of 485 (by decide +kernel) (by decide +kernel)
theorem lk_X0_59 : (Cond.methodLink RX0 59 yX0_settle) ∈ TBw := tb_of 486 (by decide +kernel) (by decide +kernel)
theorem in_X0_settle : (Cond.instanceMethod yX0_settle) ∈ TBw := tb_of 488 (by decide +kernel) (by decide +kernel)
theorem co_X0_settle : (Cond.code yX0_settle cX0_settle 5 none) ∈ TBw := tb_of 489 (by decide +kernel) (by decide +kernel)
theorem lk_X0_78 : (Cond.methodLink RX0 78 yX1_raise) ∈ TBw := tb_of 490 (by decide +kernel) (by decide +kernel)
theorem in_X1_raise : (Cond.instanceMethod yX1_raise) ∈ TBw := tb_of 491 (by decide +kernel) (by decide +kernel)
theorem se_X1_raise : (Cond.selects RX1 yX1_raise yX1_raise) ∈ TBw := tb_of 492 (by decide +kernel) (by decide +kernel)
theorem co_X1_raise : (Cond.code yX1_raise cX1_raise 3 none) ∈ TBw := tb_of 493 (by decide +kernel) (by decide +kernel)
theorem lk_X1_57 : (Cond.methodLink RX1 57 yX2_put) ∈ TBw := tb_of 494 (by decide +kernel) (by decide +kernel)
theorem lk_X0_71 : (Cond.methodLink RX0 71 yX2_put) ∈ TBw := tb_of 495 (by decide +kernel) (by decide +kernel)
theorem lk_X0_63 : (Cond.methodLink RX0 63 yX0_driftOn) ∈ TBw := tb_of 496 (by decide +kernel) (by decide +kernel)
theorem in_X0_driftOn : (Cond.instanceMethod yX0_driftOn) ∈ TBw := tb_of 498 (by decide +kernel) (by decide +kernel)
theorem co_X0_driftOn : (Cond.code yX0_driftOn cX0_driftOn 5 none) ∈ TBw := tb_of 499 (by decide +kernel) (by decide +kernel)
theorem lk_X0_74 : (Cond.methodLink RX0 74 yX1_hasColumn) ∈ TBw := tb_of 500 (by decide +kernel) (by decide +kernel)
theorem lk_X0_67 : (Cond.methodLink RX0 67 yX1_size) ∈ TBw := tb_of 501 (by decide +kernel) (by decide +kernel)
theorem lk_X9_280 : (Cond.methodLink RX9 280 yX4_watch) ∈ TBw := tb_of 502 (by decide +kernel) (by decide +kernel)
theorem in_X4_watch : (Cond.instanceMethod yX4_watch) ∈ TBw := tb_of 503 (by decide +kernel) (by decide +kernel)
theorem se_X4_watch : (Cond.selects RX4 yX4_watch yX4_watch) ∈ TBw := tb_of 504 (by decide +kernel) (by decide +kernel)
theorem co_X4_watch : (Cond.code yX4_watch cX4_watch 3 none) ∈ TBw := tb_of 505 (by decide +kernel) (by decide +kernel)
theorem lk_X4_43 : (Cond.methodLink RX4 43 yX2_get) ∈ TBw := tb_of 506 (by decide +kernel) (by decide +kernel)
theorem lk_X4_47 : (Cond.methodLink RX4 47 yX2_add) ∈ TBw := tb_of 507 (by decide +kernel) (by decide +kernel)
theorem lk_X9_284 : (Cond.methodLink RX9 284 yX1_siltUp) ∈ TBw := tb_of 508 (by decide +kernel) (by decide +kernel)
theorem in_X1_siltUp : (Cond.instanceMethod yX1_siltUp) ∈ TBw := tb_of 509 (by decide +kernel) (by decide +kernel)
theorem se_X1_siltUp : (Cond.selects RX1 yX1_siltUp yX1_siltUp) ∈ TBw := tb_of 510 (by decide +kernel) (by decide +kernel)
theorem co_X1_siltUp : (Cond.code yX1_siltUp cX1_siltUp 3 none) ∈ TBw := tb_of 511 (by decide +kernel) (by decide +kernel)
theorem lk_X1_60 : (Cond.methodLink RX1 60 yX1_number) ∈ TBw := tb_of 512 (by decide +kernel) (by decide +kernel)
theorem lk_X1_63 : (Cond.methodLink RX1 63 yX1_gathersSilt) ∈ TBw := tb_of 513 (by decide +kernel) (by decide +kernel)
theorem in_X1_gathersSilt : (Cond.instanceMethod yX1_gathersSilt) ∈ TBw := tb_of 515 (by decide +kernel) (by decide +kernel)
theorem co_X1_gathersSilt : (Cond.code yX1_gathersSilt cX1_gathersSilt 7 (some .boolean)) ∈ TBw := tb_of 516 (by decide +kernel) (by decide +kernel)
theorem lk_X1_71 : (Cond.methodLink RX1 71 yX1_hasRow) ∈ TBw := tb_of 517 (by decide +kernel) (by decide +kernel)
theorem lk_X1_75 : (Cond.methodLink RX1 75 yX1_hasColumn) ∈ TBw := tb_of 518 (by decide +kernel) (by decide +kernel)
theorem lk_X1_67 : (Cond.methodLink RX1 67 yX1_raise) ∈ TBw := tb_of 519 (by decide +kernel) (by decide +kernel)
theorem lk_L_53 : (Cond.methodLink RL 53 yX9_hours) ∈ TBw := tb_of 520 (by decide +kernel) (by decide +kernel)
theorem in_X9_hours : (Cond.instanceMethod yX9_hours) ∈ TBw := tb_of 521 (by decide +kernel) (by decide +kernel)
theorem se_X9_hours : (Cond.selects RX9 yX9_hours yX9_hours) ∈ TBw := tb_of 522 (by decide +kernel) (by decide +kernel)
theorem co_X9_hours : (Cond.code yX9_hours cX9_hours 2 (some .int)) ∈ TBw := tb_of 523 (by decide +kernel) (by decide +kernel)
theorem lk_L_57 : (Cond.methodLink RL 57 yX9_sound) ∈ TBw := tb_of 524 (by decide +kernel) (by decide +kernel)
theorem in_X9_sound : (Cond.instanceMethod yX9_sound) ∈ TBw := tb_of 525 (by decide +kernel) (by decide +kernel)
theorem se_X9_sound : (Cond.selects RX9 yX9_sound yX9_sound) ∈ TBw := tb_of 526 (by decide +kernel) (by decide +kernel)
theorem co_X9_sound : (Cond.code yX9_sound cX9_sound 2 (some .int)) ∈ TBw := tb_of 527 (by decide +kernel) (by decide +kernel)
theorem lk_X9_168 : (Cond.methodLink RX9 168 yX5_has) ∈ TBw := tb_of 528 (by decide +kernel) (by decide +kernel)
theorem in_X5_has : (Cond.instanceMethod yX5_has) ∈ TBw := tb_of 529 (by decide +kernel) (by decide +kernel)
theorem se_X5_has : (Cond.selects RX5 yX5_has yX5_has) ∈ TBw := tb_of 530 (by decide +kernel) (by decide +kernel)
theorem co_X5_has : (Cond.code yX5_has cX5_has 2 (some .boolean)) ∈ TBw := tb_of 531 (by decide +kernel) (by decide +kernel)
theorem nl_X5_26 : (Cond.methodLinkNest RX5 26 yX9_within RX9) ∈ lw_tbl := List.mem_of_getElem? (i := 532) (by decide +kernel)
theorem lk_X9_169 : (Cond.methodLink RX9 169 yX5_take) ∈ TBw := tb_of 533 (by decide +kernel) (by decide +kernel)
theorem in_X5_take : (Cond.instanceMethod yX5_take) ∈ TBw := tb_of 534 (by decide +kernel) (by decide +kernel)
theorem se_X5_take : (Cond.selects RX5 yX5_take yX5_take) ∈ TBw := tb_of 535 (by decide +kernel) (by decide +kernel)
theorem co_X5_take : (Cond.code yX5_take cX5_take 4 none) ∈ TBw := tb_of 536 (by decide +kernel) (by decide +kernel)
theorem lk_X5_34 : (Cond.methodLink RX5 34 yX2_put) ∈ TBw := tb_of 537 (by decide +kernel) (by decide +kernel)
theorem lk_X5_45 : (Cond.methodLink RX5 45 yX1_size) ∈ TBw := tb_of 538 (by decide +kernel) (by decide +kernel)
theorem lk_X5_30 : (Cond.methodLink RX5 30 yX2_get) ∈ TBw := tb_of 539 (by decide +kernel) (by decide +kernel)
theorem lk_X5_54 : (Cond.methodLink RX5 54 yX5_write) ∈ TBw := tb_of 540 (by decide +kernel) (by decide +kernel)
theorem in_X5_write : (Cond.instanceMethod yX5_write) ∈ TBw := tb_of 542 (by decide +kernel) (by decide +kernel)
theorem co_X5_write : (Cond.code yX5_write cX5_write 4 none) ∈ TBw := tb_of 543 (by decide +kernel) (by decide +kernel)
theorem lk_L_61 : (Cond.methodLink RL 61 yX9_lose) ∈ TBw := tb_of 544 (by decide +kernel) (by decide +kernel)
theorem in_X9_lose : (Cond.instanceMethod yX9_lose) ∈ TBw := tb_of 545 (by decide +kernel) (by decide +kernel)
theorem se_X9_lose : (Cond.selects RX9 yX9_lose yX9_lose) ∈ TBw := tb_of 546 (by decide +kernel) (by decide +kernel)
theorem co_X9_lose : (Cond.code yX9_lose cX9_lose 3 (some .int)) ∈ TBw := tb_of 547 (by decide +kernel) (by decide +kernel)
theorem lk_X9_173 : (Cond.methodLink RX9 173 yX5_isMissing) ∈ TBw := tb_of 548 (by decide +kernel) (by decide +kernel)
theorem in_X5_isMissing : (Cond.instanceMethod yX5_isMissing) ∈ TBw := tb_of 549 (by decide +kernel) (by decide +kernel)
theorem se_X5_isMissing : (Cond.selects RX5 yX5_isMissing yX5_isMissing) ∈ TBw := tb_of 550 (by decide +kernel) (by decide +kernel)
theorem co_X5_isMissing : (Cond.code yX5_isMissing cX5_isMissing 2 (some .boolean)) ∈ TBw := tb_of 551 (by decide +kernel) (by decide +kernel)
theorem lk_X9_176 : (Cond.methodLink RX9 176 yX5_makeGap) ∈ TBw := tb_of 552 (by decide +kernel) (by decide +kernel)
theorem in_X5_makeGap : (Cond.instanceMethod yX5_makeGap) ∈ TBw := tb_of 553 (by decide +kernel) (by decide +kernel)
theorem se_X5_makeGap : (Cond.selects RX5 yX5_makeGap yX5_makeGap) ∈ TBw := tb_of 554 (by decide +kernel) (by decide +kernel)
theorem co_X5_makeGap : (Cond.code yX5_makeGap cX5_makeGap 4 (some .boolean)) ∈ TBw := tb_of 555 (by decide +kernel) (by decide +kernel)
theorem lk_X5_41 : (Cond.methodLink RX5 41 yX5_knows) ∈ TBw := tb_of 556 (by decide +kernel) (by decide +kernel)
theorem in_X5_knows : (Cond.instanceMethod yX5_knows) ∈ TBw := tb_of 558 (by decide +kernel) (by decide +kernel)
theorem co_X5_knows : (Cond.code yX5_knows cX5_knows 3 (some .boolean)) ∈ TBw := tb_of 559 (by decide +kernel) (by decide +kernel)
theorem lk_X5_38 : (Cond.methodLink RX5 38 yX5_read) ∈ TBw := tb_of 560 (by decide +kernel) (by decide +kernel)
theorem in_X5_read : (Cond.instanceMethod yX5_read) ∈ TBw := tb_of 561 (by decide +kernel) (by decide +kernel)
theorem se_X5_read : (Cond.selects RX5 yX5_read yX5_read) ∈ TBw := tb_of 562 (by decide +kernel) (by decide +kernel)
theorem co_X5_read : (Cond.code yX5_read cX5_read 3 (some .int)) ∈ TBw := tb_of 563 (by decide +kernel) (by decide +kernel)
theorem lk_L_65 : (Cond.methodLink RL 65 yX9_join) ∈ TBw := tb_of 564 (by decide +kernel) (by decide +kernel)
theorem in_X9_join : (Cond.instanceMethod yX9_join) ∈ TBw := tb_of 565 (by decide +kernel) (by decide +kernel)
theorem se_X9_join : (Cond.selects RX9 yX9_join yX9_join) ∈ TBw := tb_of 566 (by decide +kernel) (by decide +kernel)
theorem co_X9_join : (Cond.code yX9_join cX9_join 3 (some .int)) ∈ TBw := tb_of 567 (by decide +kernel) (by decide +kernel)
theorem lk_X9_179 : (Cond.methodLink RX9 179 yX5_fillGaps) ∈ TBw := tb_of 568 (by decide +kernel) (by decide +kernel)
theorem in_X5_fillGaps : (Cond.instanceMethod yX5_fillGaps) ∈ TBw := tb_of 569 (by decide +kernel) (by decide +kernel)
theorem se_X5_fillGaps : (Cond.selects RX5 yX5_fillGaps yX5_fillGaps) ∈ TBw := tb_of 570 (by decide +kernel) (by decide +kernel)
theorem co_X5_fillGaps : (Cond.code yX5_fillGaps cX5_fillGaps 6 (some .int)) ∈ TBw := tb_of 571 (by decide +kernel) (by decide +kernel)
theorem lk_L_69 : (Cond.methodLink RL 69 yX9_between) ∈ TBw := tb_of 572 (by decide +kernel) (by decide +kernel)
theorem in_X9_between : (Cond.instanceMethod yX9_between) ∈ TBw := tb_of 573 (by decide +kernel) (by decide +kernel)
theorem se_X9_between : (Cond.selects RX9 yX9_between yX9_between) ∈ TBw := tb_of 574 (by decide +kernel) (by decide +kernel)
theorem co_X9_between : (Cond.code yX9_between cX9_between 4 (some .int)) ∈ TBw := tb_of 575 (by decide +kernel) (by decide +kernel)
theorem lk_X9_183 : (Cond.constant RX9 183 (-1000001)) ∈ TBw := tb_of 576 (by decide +kernel) (by decide +kernel)
theorem lk_X9_184 : (Cond.constant RX9 184 (-1000002)) ∈ TBw := tb_of 577 (by decide +kernel) (by decide +kernel)
theorem lk_X9_185 : (Cond.methodLink RX9 185 yX5_volume) ∈ TBw := tb_of 578 (by decide +kernel) (by decide +kernel)
theorem in_X5_volume : (Cond.instanceMethod yX5_volume) ∈ TBw := tb_of 579 (by decide +kernel) (by decide +kernel)
theorem se_X5_volume : (Cond.selects RX5 yX5_volume yX5_volume) ∈ TBw := tb_of 580 (by decide +kernel) (by decide +kernel)
theorem co_X5_volume : (Cond.code yX5_volume cX5_volume 6 (some .int)) ∈ TBw := tb_of 581 (by decide +kernel) (by decide +kernel)
theorem lk_X5_58 : (Cond.methodLink RX5 58 yX5_bothKnow) ∈ TBw := tb_of 582 (by decide +kernel) (by decide +kernel)
theorem in_X5_bothKnow : (Cond.instanceMethod yX5_bothKnow) ∈ TBw := tb_of 584 (by decide +kernel) (by decide +kernel)
theorem co_X5_bothKnow : (Cond.code yX5_bothKnow cX5_bothKnow 4 (some .boolean)) ∈ TBw := tb_of 585 (by decide +kernel) (by decide +kernel)
theorem lk_X9_188 : (Cond.methodLink RX9 188 yX5_pay) ∈ TBw := tb_of 586 (by decide +kernel) (by decide +kernel)
theorem in_X5_pay : (Cond.instanceMethod yX5_pay) ∈ TBw := tb_of 587 (by decide +kernel) (by decide +kernel)
theorem se_X5_pay : (Cond.selects RX5 yX5_pay yX5_pay) ∈ TBw := tb_of 588 (by decide +kernel) (by decide +kernel)
theorem co_X5_pay : (Cond.code yX5_pay cX5_pay 8 (some .int)) ∈ TBw := tb_of 589 (by decide +kernel) (by decide +kernel)
theorem lk_X5_64 : (Cond.methodLink RX5 64 Lib.Math.min.name) ∈ TBw := tb_of 590 (by decide +kernel) (by decide +kernel)
theorem lk_X5_69 : (Cond.methodLink RX5 69 Lib.Math.max.name) ∈ TBw := tb_of 591 (by decide +kernel) (by decide +kernel)
theorem lk_X9_192 : (Cond.methodLink RX9 192 yX5_unknown) ∈ TBw := tb_of 592 (by decide +kernel) (by decide +kernel)
theorem in_X5_unknown : (Cond.instanceMethod yX5_unknown) ∈ TBw := tb_of 593 (by decide +kernel) (by decide +kernel)
theorem se_X5_unknown : (Cond.selects RX5 yX5_unknown yX5_unknown) ∈ TBw := tb_of 594 (by decide +kernel) (by decide +kernel)
theorem co_X5_unknown : (Cond.code yX5_unknown cX5_unknown 6 (some .int)) ∈ TBw := tb_of 595 (by decide +kernel) (by decide +kernel)
theorem lk_L_73 : (Cond.methodLink RL 73 yX9_sounded) ∈ TBw := tb_of 596 (by decide +kernel) (by decide +kernel)
theorem in_X9_sounded : (Cond.instanceMethod yX9_sounded) ∈ TBw := tb_of 597 (by decide +kernel) (by decide +kernel)
theorem se_X9_sounded : (Cond.selects RX9 yX9_sounded yX9_sounded) ∈ TBw := tb_of 598 (by decide +kernel) (by decide +kernel)
theorem co_X9_sounded : (Cond.code yX9_sounded cX9_sounded 3 (some .int)) ∈ TBw := tb_of 599 (by decide +kernel) (by decide +kernel)
theorem lk_X9_196 : (Cond.methodLink RX9 196 yX5_read) ∈ TBw := tb_of 600 (by decide +kernel) (by decide +kernel)
theorem lk_L_77 : (Cond.methodLink RL 77 yX9_cell) ∈ TBw := tb_of 601 (by decide +kernel) (by decide +kernel)
theorem in_X9_cell : (Cond.instanceMethod yX9_cell) ∈ TBw := tb_of 602 (by decide +kernel) (by decide +kernel)
theorem se_X9_cell : (Cond.selects RX9 yX9_cell yX9_cell) ∈ TBw := tb_of 603 (by decide +kernel) (by decide +kernel)
theorem co_X9_cell : (Cond.code yX9_cell cX9_cell 3 (some .int)) ∈ TBw := tb_of 604 (by decide +kernel) (by decide +kernel)
theorem lk_L_81 : (Cond.methodLink RL 81 yX9_about) ∈ TBw := tb_of 605 (by decide +kernel) (by decide +kernel)
theorem in_X9_about : (Cond.instanceMethod yX9_about) ∈ TBw := tb_of 606 (by decide +kernel) (by decide +kernel)
theorem se_X9_about : (Cond.selects RX9 yX9_about yX9_about) ∈ TBw := tb_of 607 (by decide +kernel) (by decide +kernel)
theorem co_X9_about : (Cond.code yX9_about cX9_about 3 (some .int)) ∈ TBw := tb_of 608 (by decide +kernel) (by decide +kernel)
theorem lk_L_85 : (Cond.methodLink RL 85 yX9_broken) ∈ TBw := tb_of 609 (by decide +kernel) (by decide +kernel)
theorem in_X9_broken : (Cond.instanceMethod yX9_broken) ∈ TBw := tb_of 610 (by decide +kernel) (by decide +kernel)
theorem se_X9_broken : (Cond.selects RX9 yX9_broken yX9_broken) ∈ TBw := tb_of 611 (by decide +kernel) (by decide +kernel)
theorem co_X9_broken : (Cond.code yX9_broken cX9_broken 2 (some .int)) ∈ TBw := tb_of 612 (by decide +kernel) (by decide +kernel)
theorem lk_X9_205 : (Cond.methodLink RX9 205 yX4_has) ∈ TBw := tb_of 613 (by decide +kernel) (by decide +kernel)
theorem in_X4_has : (Cond.instanceMethod yX4_has) ∈ TBw := tb_of 614 (by decide +kernel) (by decide +kernel)
theorem se_X4_has : (Cond.selects RX4 yX4_has yX4_has) ∈ TBw := tb_of 615 (by decide +kernel) (by decide +kernel)
theorem co_X4_has : (Cond.code yX4_has cX4_has 2 (some .boolean)) ∈ TBw := tb_of 616 (by decide +kernel) (by decide +kernel)
theorem nl_X4_30 : (Cond.methodLinkNest RX4 30 yX9_within RX9) ∈ lw_tbl := List.mem_of_getElem? (i := 617) (by decide +kernel)
theorem lk_L_89 : (Cond.methodLink RL 89 yX9_count) ∈ TBw := tb_of 618 (by decide +kernel) (by decide +kernel)
theorem in_X9_count : (Cond.instanceMethod yX9_count) ∈ TBw := tb_of 619 (by decide +kernel) (by decide +kernel)
theorem se_X9_count : (Cond.selects RX9 yX9_count yX9_count) ∈ TBw := tb_of 620 (by decide +kernel) (by decide +kernel)
theorem co_X9_count : (Cond.code yX9_count cX9_count 2 (some .int)) ∈ TBw := tb_of 621 (by decide +kernel) (by decide +kernel)
theorem lk_X9_233 : (Cond.methodLink RX9 233 yX1_unfinished) ∈ TBw := tb_of 622 (by decide +kernel) (by decide +kernel)
theorem in_X1_unfinished : (Cond.instanceMethod yX1_unfinished) ∈ TBw := tb_of 623 (by decide +kernel) (by decide +kernel)
theorem se_X1_unfinished : (Cond.selects RX1 yX1_unfinished yX1_unfinished) ∈ TBw := tb_of 624 (by decide +kernel) (by decide +kernel)
theorem co_X1_unfinished : (Cond.code yX1_unfinished cX1_unfinished 3 (some .int)) ∈ TBw := tb_of 625 (by decide +kernel) (by decide +kernel)
theorem lk_L_10 : (Cond.classLink RL 10 RX10) ∈ TBw := tb_of 626 (by decide +kernel) (by decide +kernel)
theorem inst_X10 : (Cond.instantiable RX10 27) ∈ TBw := tb_of 627 (by decide +kernel) (by decide +kernel)
theorem lk_L_12 : (Cond.methodLink RL 12 yX10_init) ∈ TBw := tb_of 628 (by decide +kernel) (by decide +kernel)
theorem in_X10_init : (Cond.instanceMethod yX10_init) ∈ TBw := tb_of 629 (by decide +kernel) (by decide +kernel)
theorem co_X10_init : (Cond.code yX10_init cX10_init 1 none) ∈ TBw := tb_of 630 (by decide +kernel) (by decide +kernel)
theorem lk_X10_1 : (Cond.methodLink RX10 1 objectInit) ∈ TBw := tb_of 631 (by decide +kernel) (by decide +kernel)
theorem lk_X10_66 : (Cond.methodLink RX10 66 yX10_anew) ∈ TBw := tb_of 632 (by decide +kernel) (by decide +kernel)
theorem in_X10_anew : (Cond.instanceMethod yX10_anew) ∈ TBw := tb_of 634 (by decide +kernel) (by decide +kernel)
theorem co_X10_anew : (Cond.code yX10_anew cX10_anew 2 none) ∈ TBw := tb_of 635 (by decide +kernel) (by decide +kernel)
theorem lk_X10_7 : (Cond.fieldLink RX10 7 "DredgeWaysModel" "columns" "I") ∈ TBw := tb_of 636 (by decide +kernel) (by decide +kernel)
theorem lk_X10_13 : (Cond.fieldLink RX10 13 "DredgeWaysModel" "rows" "I") ∈ TBw := tb_of 637 (by decide +kernel) (by decide +kernel)
theorem lk_X10_16 : (Cond.fieldLink RX10 16 "DredgeWaysModel" "depth" "[I") ∈ TBw := tb_of 638 (by decide +kernel) (by decide +kernel)
theorem lk_X10_20 : (Cond.fieldLink RX10 20 "DredgeWaysModel" "design" "[I") ∈ TBw := tb_of 639 (by decide +kernel) (by decide +kernel)
theorem lk_X10_23 : (Cond.fieldLink RX10 23 "DredgeWaysModel" "cloud" "[I") ∈ TBw := tb_of 640 (by decide +kernel) (by decide +kernel)
theorem lk_X10_26 : (Cond.fieldLink RX10 26 "DredgeWaysModel" "settled" "[I") ∈ TBw := tb_of 641 (by decide +kernel) (by decide +kernel)
theorem lk_X10_29 : (Cond.fieldLink RX10 29 "DredgeWaysModel" "spare" "[I") ∈ TBw := tb_of 642 (by decide +kernel) (by decide +kernel)
theorem lk_X10_32 : (Cond.fieldLink RX10 32 "DredgeWaysModel" "rules" "[I") ∈ TBw := tb_of 643 (by decide +kernel) (by decide +kernel)
theorem lk_X10_35 : (Cond.fieldLink RX10 35 "DredgeWaysModel" "tide" "[I") ∈ TBw := tb_of 644 (by decide +kernel) (by decide +kernel)
theorem lk_X10_38 : (Cond.fieldLink RX10 38 "DredgeWaysModel" "most" "[I") ∈ TBw := tb_of 645 (by decide +kernel) (by decide +kernel)
theorem lk_X10_41 : (Cond.fieldLink RX10 41 "DredgeWaysModel" "away" "[I") ∈ TBw := tb_of 646 (by decide +kernel) (by decide +kernel)
theorem lk_X10_44 : (Cond.fieldLink RX10 44 "DredgeWaysModel" "held" "[I") ∈ TBw := tb_of 647 (by decide +kernel) (by decide +kernel)
theorem lk_X10_47 : (Cond.fieldLink RX10 47 "DredgeWaysModel" "table" "[I") ∈ TBw := tb_of 648 (by decide +kernel) (by decide +kernel)
theorem lk_X10_73 : (Cond.fieldLink RX10 73 "DredgeWaysModel" "posts" "I") ∈ TBw := tb_of 649 (by decide +kernel) (by decide +kernel)
theorem lk_X10_50 : (Cond.fieldLink RX10 50 "DredgeWaysModel" "postCell" "[I") ∈ TBw := tb_of 650 (by decide +kernel) (by decide +kernel)
theorem lk_X10_53 : (Cond.fieldLink RX10 53 "DredgeWaysModel" "postLimit" "[I") ∈ TBw := tb_of 651 (by decide +kernel) (by decide +kernel)
theorem lk_X10_56 : (Cond.fieldLink RX10 56 "DredgeWaysModel" "postBroken" "[I") ∈ TBw := tb_of 652 (by decide +kernel) (by decide +kernel)
theorem lk_X10_59 : (Cond.fieldLink RX10 59 "DredgeWaysModel" "isSheet" "[Z") ∈ TBw := tb_of 653 (by decide +kernel) (by decide +kernel)
theorem lk_X10_63 : (Cond.fieldLink RX10 63 "DredgeWaysModel" "sheet" "[I") ∈ TBw := tb_of 654 (by decide +kernel) (by decide +kernel)
theorem lk_X10_76 : (Cond.fieldLink RX10 76 "DredgeWaysModel" "hour" "I") ∈ TBw := tb_of 655 (by decide +kernel) (by decide +kernel)
theorem lk_X10_79 : (Cond.fieldLink RX10 79 "DredgeWaysModel" "trips" "I") ∈ TBw := tb_of 656 (by decide +kernel) (by decide +kernel)
theorem lk_X10_82 : (Cond.fieldLink RX10 82 "DredgeWaysModel" "dug" "I") ∈ TBw := tb_of 657 (by decide +kernel) (by decide +kernel)
theorem lk_X10_85 : (Cond.fieldLink RX10 85 "DredgeWaysModel" "came" "I") ∈ TBw := tb_of 658 (by decide +kernel) (by decide +kernel)
theorem lk_X10_88 : (Cond.fieldLink RX10 88 "DredgeWaysModel" "gone" "I") ∈ TBw := tb_of 659 (by decide +kernel) (by decide +kernel)
theorem lk_X10_91 : (Cond.fieldLink RX10 91 "DredgeWaysModel" "settledAll" "I") ∈ TBw := tb_of 660 (by decide +kernel) (by decide +kernel)
theorem lk_X10_94 : (Cond.fieldLink RX10 94 "DredgeWaysModel" "silted" "I") ∈ TBw := tb_of 661 (by decide +kernel) (by decide +kernel)
theorem lk_X10_118 : (Cond.fieldLink RX10 118 "DredgeWaysModel" "last" "I") ∈ TBw := tb_of 662 (by decide +kernel) (by decide +kernel)
theorem ac_boolean : (Cond.arrayClass .boolean) ∈ TBw := tb_of 718 (by decide +kernel) (by decide +kernel)
theorem lk_L_17 : (Cond.methodLink RL 17 yX10_board) ∈ TBw := tb_of 719 (by decide +kernel) (by decide +kernel)
theorem in_X10_board : (Cond.instanceMethod yX10_board) ∈ TBw := tb_of 720 (by decide +kernel) (by decide +kernel)
theorem se_X10_board : (Cond.selects RX10 yX10_board yX10_board) ∈ TBw := tb_of 721 (by decide +kernel) (by decide +kernel)
theorem co_X10_board : (Cond.code yX10_board cX10_board 3 (some .int)) ∈ TBw := tb_of 722 (by decide +kernel) (by decide +kernel)
theorem lk_X10_69 : (Cond.methodLink RX10 69 yX10_in) ∈ TBw := tb_of 723 (by decide +kernel) (by decide +kernel)
theorem sta_X10_in : (Cond.static yX10_in) ∈ TBw := tb_of 724 (by decide +kernel) (by decide +kernel)
theorem co_X10_in : (Cond.code yX10_in cX10_in 3 (some .boolean)) ∈ TBw := tb_of 725 (by decide +kernel) (by decide +kernel)
theorem lk_L_22 : (Cond.methodLink RL 22 yX10_lay) ∈ TBw := tb_of 726 (by decide +kernel) (by decide +kernel)
theorem in_X10_lay : (Cond.instanceMethod yX10_lay) ∈ TBw := tb_of 727 (by decide +kernel) (by decide +kernel)
theorem se_X10_lay : (Cond.selects RX10 yX10_lay yX10_lay) ∈ TBw := tb_of 728 (by decide +kernel) (by decide +kernel)
theorem co_X10_lay : (Cond.code yX10_lay cX10_lay 5 (some .int)) ∈ TBw := tb_of 729 (by decide +kernel) (by decide +kernel)
theorem lk_X10_97 : (Cond.methodLink RX10 97 yX10_isCell) ∈ TBw := tb_of 730 (by decide +kernel) (by decide +kernel)
theorem in_X10_isCell : (Cond.instanceMethod yX10_isCell) ∈ TBw := tb_of 732 (by decide +kernel) (by decide +kernel)
theorem co_X10_isCell : (Cond.code yX10_isCell cX10_isCell 2 (some .boolean)) ∈ TBw := tb_of 733 (by decide +kernel) (by decide +kernel)
theorem lk_L_26 : (Cond.methodLink RL 26 yX10_rule) ∈ TBw := tb_of 734 (by decide +kernel) (by decide +kernel)
theorem in_X10_rule : (Cond.instanceMethod yX10_rule) ∈ TBw := tb_of 735 (by decide +kernel) (by decide +kernel)
theorem se_X10_rule : (Cond.selects RX10 yX10_rule yX10_rule) ∈ TBw := tb_of 736 (by decide +kernel) (by decide +kernel)
theorem co_X10_rule : (Cond.code yX10_rule cX10_rule 5 (some .int)) ∈ TBw := tb_of 737 (by decide +kernel) (by decide +kernel)
theorem lk_L_30 : (Cond.methodLink RL 30 yX10_tide) ∈ TBw := tb_of 738 (by decide +kernel) (by decide +kernel)
theorem in_X10_tide : (Cond.instanceMethod yX10_tide) ∈ TBw := tb_of 739 (by decide +kernel) (by decide +kernel)
theorem se_X10_tide : (Cond.selects RX10 yX10_tide yX10_tide) ∈ TBw := tb_of 740 (by decide +kernel) (by decide +kernel)
theorem co_X10_tide : (Cond.code yX10_tide cX10_tide 4 (some .int)) ∈ TBw := tb_of 741 (by decide +kernel) (by decide +kernel)
theorem lk_L_34 : (Cond.methodLink RL 34 yX10_hold) ∈ TBw := tb_of 742 (by decide +kernel) (by decide +kernel)
theorem in_X10_hold : (Cond.instanceMethod yX10_hold) ∈ TBw := tb_of 743 (by decide +kernel) (by decide +kernel)
theorem se_X10_hold : (Cond.selects RX10 yX10_hold yX10_hold) ∈ TBw := tb_of 744 (by decide +kernel) (by decide +kernel)
theorem co_X10_hold : (Cond.code yX10_hold cX10_hold 5 (some .int)) ∈ TBw := tb_of 745 (by decide +kernel) (by decide +kernel)
theorem lk_L_38 : (Cond.methodLink RL 38 yX10_spot) ∈ TBw := tb_of 746 (by decide +kernel) (by decide +kernel)
theorem in_X10_spot : (Cond.instanceMethod yX10_spot) ∈ TBw := tb_of 747 (by decide +kernel) (by decide +kernel)
theorem se_X10_spot : (Cond.selects RX10 yX10_spot yX10_spot) ∈ TBw := tb_of 748 (by decide +kernel) (by decide +kernel)
theorem co_X10_spot : (Cond.code yX10_spot cX10_spot 4 (some .int)) ∈ TBw := tb_of 749 (by decide +kernel) (by decide +kernel)
theorem lk_X10_101 : (Cond.methodLink RX10 101 yX10_isSpot) ∈ TBw := tb_of 750 (by decide +kernel) (by decide +kernel)
theorem sta_X10_isSpot : (Cond.static yX10_isSpot) ∈ TBw := tb_of 751 (by decide +kernel) (by decide +kernel)
theorem co_X10_isSpot : (Cond.code yX10_isSpot cX10_isSpot 1 (some .boolean)) ∈ TBw := tb_of 752 (by decide +kernel) (by decide +kernel)
theorem lk_X10_104 : (Cond.constant RX10 104 (100000)) ∈ TBw := tb_of 753 (by decide +kernel) (by decide +kernel)
theorem lk_L_42 : (Cond.methodLink RL 42 yX10_post) ∈ TBw := tb_of 754 (by decide +kernel) (by decide +kernel)
theorem in_X10_post : (Cond.instanceMethod yX10_post) ∈ TBw := tb_of 755 (by decide +kernel) (by decide +kernel)
theorem se_X10_post : (Cond.selects RX10 yX10_post yX10_post) ∈ TBw := tb_of 756 (by decide +kernel) (by decide +kernel)
theorem co_X10_post : (Cond.code yX10_post cX10_post 3 (some .int)) ∈ TBw := tb_of 757 (by decide +kernel) (by decide +kernel)
theorem lk_L_47 : (Cond.methodLink RL 47 yX10_best) ∈ TBw := tb_of 758 (by decide +kernel) (by decide +kernel)
theorem in_X10_best : (Cond.instanceMethod yX10_best) ∈ TBw := tb_of 759 (by decide +kernel) (by decide +kernel)
theorem se_X10_best : (Cond.selects RX10 yX10_best yX10_best) ∈ TBw := tb_of 760 (by decide +kernel) (by decide +kernel)
theorem co_X10_best : (Cond.code yX10_best cX10_best 4 (some .int)) ∈ TBw := tb_of 761 (by decide +kernel) (by decide +kernel)
theorem lk_L_56 : (Cond.methodLink RL 56 yX10_hours) ∈ TBw := tb_of 762 (by decide +kernel) (by decide +kernel)
theorem in_X10_hours : (Cond.instanceMethod yX10_hours) ∈ TBw := tb_of 763 (by decide +kernel) (by decide +kernel)
theorem se_X10_hours : (Cond.selects RX10 yX10_hours yX10_hours) ∈ TBw := tb_of 764 (by decide +kernel) (by decide +kernel)
theorem co_X10_hours : (Cond.code yX10_hours cX10_hours 3 (some .int)) ∈ TBw := tb_of 765 (by decide +kernel) (by decide +kernel)
theorem lk_X10_115 : (Cond.methodLink RX10 115 yX10_passes) ∈ TBw := tb_of 766 (by decide +kernel) (by decide +kernel)
theorem in_X10_passes : (Cond.instanceMethod yX10_passes) ∈ TBw := tb_of 768 (by decide +kernel) (by decide +kernel)
theorem co_X10_passes : (Cond.code yX10_passes cX10_passes 1 none) ∈ TBw := tb_of 769 (by decide +kernel) (by decide +kernel)
theorem lk_X10_109 : (Cond.methodLink RX10 109 yX10_drifts) ∈ TBw := tb_of 770 (by decide +kernel) (by decide +kernel)
theorem in_X10_drifts : (Cond.instanceMethod yX10_drifts) ∈ TBw := tb_of 772 (by decide +kernel) (by decide +kernel)
theorem co_X10_drifts : (Cond.code yX10_drifts cX10_drifts 7 none) ∈ TBw := tb_of 773 (by decide +kernel) (by decide +kernel)
theorem lk_X10_112 : (Cond.methodLink RX10 112 yX10_silts) ∈ TBw := tb_of 774 (by decide +kernel) (by decide +kernel)
theorem in_X10_silts : (Cond.instanceMethod yX10_silts) ∈ TBw := tb_of 776 (by decide +kernel) (by decide +kernel)
theorem co_X10_silts : (Cond.code yX10_silts cX10_silts 3 none) ∈ TBw := tb_of 777 (by decide +kernel) (by decide +kernel)
theorem lk_X10_105 : (Cond.methodLink RX10 105 yX10_mean) ∈ TBw := tb_of 778 (by decide +kernel) (by decide +kernel)
theorem in_X10_mean : (Cond.instanceMethod yX10_mean) ∈ TBw := tb_of 780 (by decide +kernel) (by decide +kernel)
theorem co_X10_mean : (Cond.code yX10_mean cX10_mean 6 (some .int)) ∈ TBw := tb_of 781 (by decide +kernel) (by decide +kernel)
theorem lk_L_52 : (Cond.methodLink RL 52 yX10_trip) ∈ TBw := tb_of 782 (by decide +kernel) (by decide +kernel)
theorem in_X10_trip : (Cond.instanceMethod yX10_trip) ∈ TBw := tb_of 783 (by decide +kernel) (by decide +kernel)
theorem se_X10_trip : (Cond.selects RX10 yX10_trip yX10_trip) ∈ TBw := tb_of 784 (by decide +kernel) (by decide +kernel)
theorem co_X10_trip : (Cond.code yX10_trip cX10_trip 12 (some .int)) ∈ TBw := tb_of 785 (by decide +kernel) (by decide +kernel)
theorem lk_X10_121 : (Cond.methodLink RX10 121 yX10_digs) ∈ TBw := tb_of 786 (by decide +kernel) (by decide +kernel)
theorem in_X10_digs : (Cond.instanceMethod yX10_digs) ∈ TBw := tb_of 788 (by decide +kernel) (by decide +kernel)
theorem co_X10_digs : (Cond.code yX10_digs cX10_digs 11 (some .int)) ∈ TBw := tb_of 789 (by decide +kernel) (by decide +kernel)
theorem lk_X10_125 : (Cond.methodLink RX10 125 yX10_waits) ∈ TBw := tb_of 790 (by decide +kernel) (by decide +kernel)
theorem in_X10_waits : (Cond.instanceMethod yX10_waits) ∈ TBw := tb_of 792 (by decide +kernel) (by decide +kernel)
theorem co_X10_waits : (Cond.code yX10_waits cX10_waits 4 (some .int)) ∈ TBw := tb_of 793 (by decide +kernel) (by decide +kernel)
theorem lk_L_60 : (Cond.methodLink RL 60 yX10_sound) ∈ TBw := tb_of 794 (by decide +kernel) (by decide +kernel)
theorem in_X10_sound : (Cond.instanceMethod yX10_sound) ∈ TBw := tb_of 795 (by decide +kernel) (by decide +kernel)
theorem se_X10_sound : (Cond.selects RX10 yX10_sound yX10_sound) ∈ TBw := tb_of 796 (by decide +kernel) (by decide +kernel)
theorem co_X10_sound : (Cond.code yX10_sound cX10_sound 3 (some .int)) ∈ TBw := tb_of 797 (by decide +kernel) (by decide +kernel)
theorem lk_X10_129 : (Cond.methodLink RX10 129 yX10_isSix) ∈ TBw := tb_of 798 (by decide +kernel) (by decide +kernel)
theorem sta_X10_isSix : (Cond.static yX10_isSix) ∈ TBw := tb_of 799 (by decide +kernel) (by decide +kernel)
theorem co_X10_isSix : (Cond.code yX10_isSix cX10_isSix 1 (some .boolean)) ∈ TBw := tb_of 800 (by decide +kernel) (by decide +kernel)
theorem lk_L_64 : (Cond.methodLink RL 64 yX10_lose) ∈ TBw := tb_of 801 (by decide +kernel) (by decide +kernel)
theorem in_X10_lose : (Cond.instanceMethod yX10_lose) ∈ TBw := tb_of 802 (by decide +kernel) (by decide +kernel)
theorem se_X10_lose : (Cond.selects RX10 yX10_lose yX10_lose) ∈ TBw := tb_of 803 (by decide +kernel) (by decide +kernel)
theorem co_X10_lose : (Cond.code yX10_lose cX10_lose 4 (some .int)) ∈ TBw := tb_of 804 (by decide +kernel) (by decide +kernel)
theorem lk_L_68 : (Cond.methodLink RL 68 yX10_join) ∈ TBw := tb_of 805 (by decide +kernel) (by decide +kernel)
theorem in_X10_join : (Cond.instanceMethod yX10_join) ∈ TBw := tb_of 806 (by decide +kernel) (by decide +kernel)
theorem se_X10_join : (Cond.selects RX10 yX10_join yX10_join) ∈ TBw := tb_of 807 (by decide +kernel) (by decide +kernel)
theorem co_X10_join : (Cond.code yX10_join cX10_join 5 (some .int)) ∈ TBw := tb_of 808 (by decide +kernel) (by decide +kernel)
theorem lk_L_72 : (Cond.methodLink RL 72 yX10_between) ∈ TBw := tb_of 809 (by decide +kernel) (by decide +kernel)
theorem in_X10_between : (Cond.instanceMethod yX10_between) ∈ TBw := tb_of 810 (by decide +kernel) (by decide +kernel)
theorem se_X10_between : (Cond.selects RX10 yX10_between yX10_between) ∈ TBw := tb_of 811 (by decide +kernel) (by decide +kernel)
theorem co_X10_between : (Cond.code yX10_between cX10_between 10 (some .int)) ∈ TBw := tb_of 812 (by decide +kernel) (by decide +kernel)
theorem lk_X10_132 : (Cond.constant RX10 132 (-1000001)) ∈ TBw := tb_of 813 (by decide +kernel) (by decide +kernel)
theorem lk_X10_133 : (Cond.constant RX10 133 (-1000002)) ∈ TBw := tb_of 814 (by decide +kernel) (by decide +kernel)
theorem lk_L_76 : (Cond.methodLink RL 76 yX10_sounded) ∈ TBw := tb_of 815 (by decide +kernel) (by decide +kernel)
theorem in_X10_sounded : (Cond.instanceMethod yX10_sounded) ∈ TBw := tb_of 816 (by decide +kernel) (by decide +kernel)
theorem se_X10_sounded : (Cond.selects RX10 yX10_sounded yX10_sounded) ∈ TBw := tb_of 817 (by decide +kernel) (by decide +kernel)
theorem co_X10_sounded : (Cond.code yX10_sounded cX10_sounded 3 (some .int)) ∈ TBw := tb_of 818 (by decide +kernel) (by decide +kernel)
theorem lk_L_80 : (Cond.methodLink RL 80 yX10_cell) ∈ TBw := tb_of 819 (by decide +kernel) (by decide +kernel)
theorem in_X10_cell : (Cond.instanceMethod yX10_cell) ∈ TBw := tb_of 820 (by decide +kernel) (by decide +kernel)
theorem se_X10_cell : (Cond.selects RX10 yX10_cell yX10_cell) ∈ TBw := tb_of 821 (by decide +kernel) (by decide +kernel)
theorem co_X10_cell : (Cond.code yX10_cell cX10_cell 3 (some .int)) ∈ TBw := tb_of 822 (by decide +kernel) (by decide +kernel)
theorem lk_L_84 : (Cond.methodLink RL 84 yX10_about) ∈ TBw := tb_of 823 (by decide +kernel) (by decide +kernel)
theorem in_X10_about : (Cond.instanceMethod yX10_about) ∈ TBw := tb_of 824 (by decide +kernel) (by decide +kernel)
theorem se_X10_about : (Cond.selects RX10 yX10_about yX10_about) ∈ TBw := tb_of 825 (by decide +kernel) (by decide +kernel)
theorem co_X10_about : (Cond.code yX10_about cX10_about 3 (some .int)) ∈ TBw := tb_of 826 (by decide +kernel) (by decide +kernel)
theorem lk_L_88 : (Cond.methodLink RL 88 yX10_broken) ∈ TBw := tb_of 827 (by decide +kernel) (by decide +kernel)
theorem in_X10_broken : (Cond.instanceMethod yX10_broken) ∈ TBw := tb_of 828 (by decide +kernel) (by decide +kernel)
theorem se_X10_broken : (Cond.selects RX10 yX10_broken yX10_broken) ∈ TBw := tb_of 829 (by decide +kernel) (by decide +kernel)
theorem co_X10_broken : (Cond.code yX10_broken cX10_broken 2 (some .int)) ∈ TBw := tb_of 830 (by decide +kernel) (by decide +kernel)
theorem lk_L_92 : (Cond.methodLink RL 92 yX10_count) ∈ TBw := tb_of 831 (by decide +kernel) (by decide +kernel)
theorem in_X10_count : (Cond.instanceMethod yX10_count) ∈ TBw := tb_of 832 (by decide +kernel) (by decide +kernel)
theorem se_X10_count : (Cond.selects RX10 yX10_count yX10_count) ∈ TBw := tb_of 833 (by decide +kernel) (by decide +kernel)
theorem co_X10_count : (Cond.code yX10_count cX10_count 2 (some .int)) ∈ TBw := tb_of 834 (by decide +kernel) (by decide +kernel)
theorem lk_X10_134 : (Cond.methodLink RX10 134 yX10_undone) ∈ TBw := tb_of 835 (by decide +kernel) (by decide +kernel)
theorem in_X10_undone : (Cond.instanceMethod yX10_undone) ∈ TBw := tb_of 837 (by decide +kernel) (by decide +kernel)
theorem co_X10_undone : (Cond.code yX10_undone cX10_undone 3 (some .int)) ∈ TBw := tb_of 838 (by decide +kernel) (by decide +kernel)
theorem se_X9_startAnew : (Cond.selects RX9 yX9_startAnew yX9_startAnew) ∈ TBw := tb_of 0 (by decide +kernel) (by decide +kernel)
theorem se_X9_startRules : (Cond.selects RX9 yX9_startRules yX9_startRules) ∈ TBw := tb_of 1 (by decide +kernel) (by decide +kernel)
theorem se_X3_planRun : (Cond.selects RX3 yX3_planRun yX3_planRun) ∈ TBw := tb_of 2 (by decide +kernel) (by decide +kernel)
theorem se_X3_planCell : (Cond.selects RX3 yX3_planCell yX3_planCell) ∈ TBw := tb_of 3 (by decide +kernel) (by decide +kernel)
theorem se_X9_homeHour : (Cond.selects RX9 yX9_homeHour yX9_homeHour) ∈ TBw := tb_of 4 (by decide +kernel) (by decide +kernel)
theorem se_X9_carryOut : (Cond.selects RX9 yX9_carryOut yX9_carryOut) ∈ TBw := tb_of 5 (by decide +kernel) (by decide +kernel)
theorem se_X9_passHours : (Cond.selects RX9 yX9_passHours yX9_passHours) ∈ TBw := tb_of 6 (by decide +kernel) (by decide +kernel)
theorem se_X9_endHour : (Cond.selects RX9 yX9_endHour yX9_endHour) ∈ TBw := tb_of 7 (by decide +kernel) (by decide +kernel)
theorem se_X0_settle : (Cond.selects RX0 yX0_settle yX0_settle) ∈ TBw := tb_of 8 (by decide +kernel) (by decide +kernel)
theorem se_X0_driftOn : (Cond.selects RX0 yX0_driftOn yX0_driftOn) ∈ TBw := tb_of 9 (by decide +kernel) (by decide +kernel)
theorem se_X1_gathersSilt : (Cond.selects RX1 yX1_gathersSilt yX1_gathersSilt) ∈ TBw := tb_of 10 (by decide +kernel) (by decide +kernel)
theorem se_X5_write : (Cond.selects RX5 yX5_write yX5_write) ∈ TBw := tb_of 11 (by decide +kernel) (by decide +kernel)
theorem se_X5_knows : (Cond.selects RX5 yX5_knows yX5_knows) ∈ TBw := tb_of 12 (by decide +kernel) (by decide +kernel)
theorem se_X5_bothKnow : (Cond.selects RX5 yX5_bothKnow yX5_bothKnow) ∈ TBw := tb_of 13 (by decide +kernel) (by decide +kernel)
theorem se_X10_anew : (Cond.selects RX10 yX10_anew yX10_anew) ∈ TBw := tb_of 14 (by decide +kernel) (by decide +kernel)
theorem se_X10_isCell : (Cond.selects RX10 yX10_isCell yX10_isCell) ∈ TBw := tb_of 15 (by decide +kernel) (by decide +kernel)
theorem se_X10_passes : (Cond.selects RX10 yX10_passes yX10_passes) ∈ TBw := tb_of 16 (by decide +kernel) (by decide +kernel)
theorem se_X10_drifts : (Cond.selects RX10 yX10_drifts yX10_drifts) ∈ TBw := tb_of 17 (by decide +kernel) (by decide +kernel)
theorem se_X10_silts : (Cond.selects RX10 yX10_silts yX10_silts) ∈ TBw := tb_of 18 (by decide +kernel) (by decide +kernel)
theorem se_X10_mean : (Cond.selects RX10 yX10_mean yX10_mean) ∈ TBw := tb_of 19 (by decide +kernel) (by decide +kernel)
theorem se_X10_digs : (Cond.selects RX10 yX10_digs yX10_digs) ∈ TBw := tb_of 20 (by decide +kernel) (by decide +kernel)
theorem se_X10_waits : (Cond.selects RX10 yX10_waits yX10_waits) ∈ TBw := tb_of 21 (by decide +kernel) (by decide +kernel)
theorem se_X10_undone : (Cond.selects RX10 yX10_undone yX10_undone) ∈ TBw := tb_of 22 (by decide +kernel) (by decide +kernel)
theorem fin_X0 : GoodIn lw_tbl wsX00 := goodIn_r _ [116, 118, 120, 122, 124, 126] (by decide +kernel) (by decide +kernel)
theorem fi_X0 : ∀ w ∈ wsX00, w ∈ TBw := fun w h => List.mem_filter.mpr ⟨(fin_X0 w h).1, List.all_eq_true.mp (show wsX00.all goodWord = true by decide +kernel) w h⟩
theorem fin_X1 : GoodIn lw_tbl wsX10 := goodIn_r _ [83, 85, 87, 89, 91, 93] (by decide +kernel) (by decide +kernel)
theorem fi_X1 : ∀ w ∈ wsX10, w ∈ TBw := fun w h => List.mem_filter.mpr ⟨(fin_X1 w h).1, List.all_eq_true.mp (show wsX10.all goodWord = true by decide +kernel) w h⟩
theorem fin_X2 : GoodIn lw_tbl wsX20 := goodIn_r _ [54] (by decide +kernel) (by decide +kernel)
theorem fi_X2 : ∀ w ∈ wsX20, w ∈ TBw := fun w h => List.mem_filter.mpr ⟨(fin_X2 w h).1, List.all_eq_true.mp (show wsX20.all goodWord = true by decide +kernel) w h⟩
theorem fin_X3 : GoodIn lw_tbl wsX30 := goodIn_r _ [169, 171, 173, 175] (by decide +kernel) (by decide +kernel)
theorem fi_X3 : ∀ w ∈ wsX30, w ∈ TBw := fun w h => List.mem_filter.mpr ⟨(fin_X3 w h).1, List.all_eq_true.mp (show wsX30.all goodWord = true by decide +kernel) w h⟩
theorem fin_X4 : GoodIn lw_tbl wsX40 := goodIn_r _ [213, 215, 217, 219] (by decide +kernel) (by decide +kernel)
theorem fi_X4 : ∀ w ∈ wsX40, w ∈ TBw := fun w h => List.mem_filter.mpr ⟨(fin_X4 w h).1, List.all_eq_true.mp (show wsX40.all goodWord = true by decide +kernel) w h⟩
theorem fin_X5 : GoodIn lw_tbl wsX50 := goodIn_r _ [232, 234] (by decide +kernel) (by decide +kernel)
theorem fi_X5 : ∀ w ∈ wsX50, w ∈ TBw := fun w h => List.mem_filter.mpr ⟨(fin_X5 w h).1, List.all_eq_true.mp (show wsX50.all goodWord = true by decide +kernel) w h⟩
theorem fin_X6 : GoodIn lw_tbl wsX60 := goodIn_r _ [152] (by decide +kernel) (by decide +kernel)
theorem fi_X6 : ∀ w ∈ wsX60, w ∈ TBw := fun w h => List.mem_filter.mpr ⟨(fin_X6 w h).1, List.all_eq_true.mp (show wsX60.all goodWord = true by decide +kernel) w h⟩
theorem fin_X7 : GoodIn lw_tbl wsX70 := goodIn_r _ [192, 194, 196] (by decide +kernel) (by decide +kernel)
theorem fi_X7 : ∀ w ∈ wsX70, w ∈ TBw := fun w h => List.mem_filter.mpr ⟨(fin_X7 w h).1, List.all_eq_true.mp (show wsX70.all goodWord = true by decide +kernel) w h⟩
theorem fin_X8 : GoodIn lw_tbl wsX80 := goodIn_r _ [139] (by decide +kernel) (by decide +kernel)
theorem fi_X8 : ∀ w ∈ wsX80, w ∈ TBw := fun w h => List.mem_filter.mpr ⟨(fin_X8 w h).1, List.all_eq_true.mp (show wsX80.all goodWord = true by decide +kernel) w h⟩
theorem fin_X9 : GoodIn lw_tbl wsX90 := goodIn_r _ [290, 292, 294, 296, 298, 300, 302, 304, 306, 308, 310, 312] (by decide +kernel) (by decide +kernel)
theorem fi_X9 : ∀ w ∈ wsX90, w ∈ TBw := fun w h => List.mem_filter.mpr ⟨(fin_X9 w h).1, List.all_eq_true.mp (show wsX90.all goodWord = true by decide +kernel) w h⟩
theorem fin_X10 : GoodIn lw_tbl wsX100 := goodIn_r _ [663, 665, 667, 669, 671, 673, 675, 677, 679, 681, 683, 685, 687, 689, 691, 693, 695, 697, 699, 701, 703, 705, 707, 709, 711, 713, 715] (by decide +kernel) (by decide +kernel)
theorem fi_X10 : ∀ w ∈ wsX100, w ∈ TBw := fun w h => List.mem_filter.mpr ⟨(fin_X10 w h).1, List.all_eq_true.mp (show wsX100.all goodWord = true by decide +kernel) w h⟩
/-- the links to private members of nest mates -/
def nwList : List Cond := [Cond.methodLinkNest RX9 20 yX1_init RX9, Cond.methodLinkNest RX9 27 yX0_init RX9, Cond.methodLinkNest RX9 34 yX8_init RX9, Cond.methodLinkNest RX9 41 yX6_init RX9, Cond.methodLinkNest RX9 48 yX3_init RX9, Cond.methodLinkNest RX9 55 yX7_init RX9, Cond.methodLinkNest RX9 62 yX4_init RX9, Cond.methodLinkNest RX9 69 yX5_init RX9, Cond.methodLinkNest RX1 43 yX9_within RX9, Cond.methodLinkNest RX7 29 yX9_within RX9, Cond.methodLinkNest RX5 26 yX9_within RX9, Cond.methodLinkNest RX4 30 yX9_within RX9]
def NW (U : State) : Prop := ∀ w ∈ nwList, va_Nw w U
end
section
/-! the numbers: an int of the machine, as a whole number -/
def I (z : Int) : Int32 := Int32.ofInt z
abbrev St : Type := Nat → Int → Int
def st (σ : St) (k : Nat) (i v : Int) : St := fun k' i' => if k' = k ∧ i' = i then v else σ k' i'
def rg (z : Int) : Prop := -2147483648 ≤ z ∧ z < 2147483648
theorem I_toInt {z : Int} (h : rg z) : (I z).toInt = z := by
  obtain ⟨h1, h2⟩ := h
  unfold I
  rw [Int32.toInt_ofInt]
  show Int.bmod z 4294967296 = z
  rw [Int.bmod_def]; split <;> omega
theorem I_of (x : Int32) : x = I x.toInt := by unfold I; exact Int32.ofInt_toInt x |>.symm
theorem rg_of (x : Int32) : rg x.toInt := ⟨Int32.le_toInt x, Int32.toInt_lt x⟩
theorem I_add (a b : Int) : I a + I b = I (a + b) := (Int32.ofInt_add a b).symm
theorem I_sub (a b : Int) : I a - I b = I (a - b) := (Int32.ofInt_sub a b).symm
theorem I_mul (a b : Int) : I a * I b = I (a * b) := (Int32.ofInt_mul a b).symm
theorem I_neg (a : Int) : - I a = I (-a) := (Int32.ofInt_neg a).symm
theorem I_eq {a b : Int} (ha : rg a) (hb : rg b) : I a = I b ↔ a = b := by
  constructor
  · intro h
    have := congrArg Int32.toInt h
    rwa [I_toInt ha, I_toInt hb] at this
  · rintro rfl; rfl
theorem I_lt {a b : Int} (ha : rg a) (hb : rg b) : I a < I b ↔ a < b := by
  rw [Int32.lt_iff_toInt_lt, I_toInt ha, I_toInt hb]
theorem I_le {a b : Int} (ha : rg a) (hb : rg b) : I a ≤ I b ↔ a ≤ b := by
  rw [Int32.le_iff_toInt_le, I_toInt ha, I_toInt hb]
theorem rg0 : rg 0 := by unfold rg; omega
theorem I_0 : I 0 = 0 := rfl
theorem I_div {a b : Int} (ha : 0 ≤ a) (ha2 : a < 2147483648) (hb : 0 < b) (hb2 : b < 2147483648) : I a / I b = I (a / b) := by
  have e : a / b = a.tdiv b := (Int.tdiv_eq_ediv_of_nonneg ha).symm
  have h : (I a / I b).toInt = (I (a / b)).toInt := by
    have h0 : 0 ≤ a / b := Int.ediv_nonneg ha (Int.le_of_lt hb)
    have h1 : a / b ≤ a := Int.ediv_le_self b ha
    rw [I_toInt (show rg (a / b) from ⟨by omega, by omega⟩), Int32.toInt_div, I_toInt (show rg a from ⟨by omega, by omega⟩), I_toInt (show rg b from ⟨by omega, by omega⟩), ← e]
    rw [Int.bmod_def]; split <;> omega
  exact Int32.toInt_inj.mp h
theorem I_rem {a b : Int} (ha : 0 ≤ a) (ha2 : a < 2147483648) (hb : 0 < b) (hb2 : b < 2147483648) : I a - I a / I b * I b = I (a % b) := by
  rw [I_div ha ha2 hb hb2, I_mul, I_sub]
  congr 1
  have := Int.emod_add_mul_ediv a b
  rw [Int.mul_comm] at this
  omega
theorem I_in {a : Int} {n : Nat} (h0 : 0 ≤ a) (h : a < n) (hn : n < 2147483648) : vp_in (I a) n := by
  rw [vp_in_iff, I_toInt ⟨by omega, by omega⟩]; exact ⟨h0, h⟩
theorem I_cl {a : Int} (h0 : 0 ≤ a) (h : a < 2147483648) : (((I a).toNatClampNeg : Nat) : Int) = a := by
  have e : (I a).toNatClampNeg = a.toNat := by
    rw [← Int32.toNat_toInt, I_toInt ⟨by omega, by omega⟩]
  rw [e]; omega
theorem I_upd (σ : St) (k : Nat) {a : Int} (h0 : 0 ≤ a) (h : a < 2147483648) (v : Int) : upd (fun q : Nat => I (σ k q)) (I a).toNatClampNeg (I v) = fun q : Nat => I (st σ k a v k q) := by
  funext q
  have e := I_cl h0 h
  by_cases hq : q = (I a).toNatClampNeg
  · rw [hq, pk_us]
    unfold st
    rw [e, if_pos ⟨rfl, rfl⟩]
  · rw [pk_un hq]
    unfold st
    rw [if_neg]
    rintro ⟨-, h2⟩
    exact hq (by omega)
theorem nI_I (n : Nat) : nI n = I (n : Int) := (Int32.ofInt_eq_ofNat (n := n)).symm
end
section
/-! contracts over a world that a state spells, and their rows -/
theorem nw_form : ∀ w ∈ nwList, ∃ a i x b, w = Cond.methodLinkNest a i x b := by
  intro w hw
  simp only [nwList, List.mem_cons, List.not_mem_nil, or_false] at hw
  rcases hw with rfl | rfl | rfl | rfl | rfl | rfl | rfl | rfl | rfl | rfl | rfl | rfl <;> exact ⟨_, _, _, _, rfl⟩
theorem NW.moved {s U : State} (hW : s.WarmedH U.vm) (h : NW s) : NW U := by
  intro w hw
  obtain ⟨a, i, x, b, rfl⟩ := nw_form w hw
  exact va_Nw.warmM hW (h _ hw)
theorem NW.same {u U : State} (hv : u.vm = U.vm) (h : NW u) : NW U := by
  intro w hw
  obtain ⟨a, i, x, b, rfl⟩ := nw_form w hw
  exact va_Nw.same rfl hv (h _ hw)
def jW (D : va_G) (A : Nat → Prop) (H0 : Heap) (ws : va_W) (H : Heap) (locs : List Loc) : Prop := va_P D vwCl ws H ∧ va_S A H0 H locs
def Jx (p : Program) (m : MethodId) (c : Code) (cc : ByteArray) (nL : Nat) (s : State) (args : Array Value) (own : String) (D : va_G) (tys : List (ClassId × FieldType)) (A : Nat → Prop) (wl : St → va_W) : Prop :=
  CallFix p m c cc nL s args TBw own ∧ va_K D vwCl tys s ∧ (∀ τ, va_D A (wl τ)) ∧ NW s
def jPre (D : va_G) (tys : List (ClassId × FieldType)) (wl : St → va_W) (av : List Value) (σ : St) : Array Value → State → Prop := va_Pc av (fun U => va_P D vwCl (wl σ) U.heap ∧ va_K D vwCl tys U ∧ NW U)
theorem jPre.blind {D : va_G} {tys : List (ClassId × FieldType)} {wl : St → va_W} {av : List Value} {σ : St} : FrameBlind (jPre D tys wl av σ) := by
  intro a U g mk q
  obtain ⟨q0, qP, qK, qN⟩ := q
  exact ⟨q0, qP, va_K.moved (u := U) (U := U.calling g mk a) (Vm.Alike.refl U.vm) qK, NW.same (u := U) (U := U.calling g mk a) rfl qN⟩
def JMi (l : Launch) (y : MethodName) (cc : ByteArray) (maxL : Nat) (ret : Option FieldType) (rm : Room) (D : va_G) (tys : List (ClassId × FieldType)) (A : Nat → Prop) (wl : St → va_W) (av : List Value) (σ : St) (Post : Int → St → Prop) : Prop :=
  Met l y (.code y cc maxL ret :: TBw) rm (jPre D tys wl av σ) (va_Qi (fun (v : Int32) (τ : St) => ∃ r : Int, v = I r ∧ Post r τ) (fun τ t => va_P D vwCl (wl τ) t.heap) A) 0 0 A
def JMv (l : Launch) (y : MethodName) (cc : ByteArray) (maxL : Nat) (rm : Room) (D : va_G) (tys : List (ClassId × FieldType)) (A : Nat → Prop) (wl : St → va_W) (av : List Value) (σ : St) (Post : St → Prop) : Prop :=
  Met l y (.code y cc maxL none :: TBw) rm (jPre D tys wl av σ) (va_Qv (fun (τ : St) => Post τ) (fun τ t => va_P D vwCl (wl τ) t.heap) A) 0 0 A
theorem JMi.of {l : Launch} {y : MethodName} {cc : ByteArray} {maxL : Nat} {ty : FieldType} {rm : Room} {D : va_G} {tys : List (ClassId × FieldType)} {A : Nat → Prop} {wl : St → va_W} {av : List Value} {σ : St} {Post : Int → St → Prop} (own : String)
    (hy : plainName y.cls = true) (hown : y.cls = own) (hlen : (lg_sl av).length ≤ maxL) (hD : ∀ τ, va_D A (wl τ))
    (body : ∀ (p : Program) (e : Env) (s : State) (m : MethodId) (args : Array Value) (below : List Frame) (meth : Method) (c : Code) (Q : State → Prop), Jx p m c cc maxL s args own D tys A wl →
      (∀ (r : Int) (τ : St) (H : Heap) (locs : List Loc) (ls : Array Slot) (pc : Nat), decode cc pc = .ok (.ireturn, 1) → narrow ty (.int (I r)) = .int (I r) → Post r τ → jW D A s.heap (wl τ) H locs → W p l e rm s m args below meth c H locs 0 0 Q (F0 m pc ls [.int (I r)])) →
      ∀ (H : Heap) (ls : Array Slot), jW D A s.heap (wl σ) H [] → lv_has ls maxL (lv_args 0 av) → W p l e rm s m args below meth c H [] 0 0 Q (F0 m 0 ls [])) : JMi l y cc maxL (some ty) rm D tys A wl av σ Post := by
  refine Met.ofW hy rfl ?_
  intro p e s m args below meth c s₁ B hml hv
  obtain ⟨rfl, hP, hK, hN⟩ := hv
  have hts := atoms_spec (ws := .code y cc maxL (some ty) :: TBw) B.pre
  have hown' : s.vm.findClass own = some m.cls := by rw [← hown]; exact findClass_of_methodNamed B.named
  have hlocks := B.notSynchronized
  rw [lg_entry_eq]
  exact body _ _ _ _ _ _ _ _ _ ⟨⟨B.exec, B.bytes, hml, hown', fun w h => hts w (List.mem_cons_of_mem _ h)⟩, hK, hD, hN⟩ (fun r τ H locs ls pc hdg hn hpost hw => W.zret B.exec B.bytes B.returns hn (fun t ht hW => ⟨⟨I r, τ, rfl, ⟨r, rfl, hpost⟩, by show va_P D vwCl (wl τ) t.heap; rw [ht]; exact hw.1⟩, hw.2.F ht⟩) hw.2.2.2 hdg) s.heap _ ⟨hP, va_S.rf⟩ (lv_entry av hlen)
theorem JMv.of {l : Launch} {y : MethodName} {cc : ByteArray} {maxL : Nat} {rm : Room} {D : va_G} {tys : List (ClassId × FieldType)} {A : Nat → Prop} {wl : St → va_W} {av : List Value} {σ : St} {Post : St → Prop} (own : String)
    (hy : plainName y.cls = true) (hown : y.cls = own) (hlen : (lg_sl av).length ≤ maxL) (hD : ∀ τ, va_D A (wl τ))
    (body : ∀ (p : Program) (e : Env) (s : State) (m : MethodId) (args : Array Value) (below : List Frame) (meth : Method) (c : Code) (Q : State → Prop), Jx p m c cc maxL s args own D tys A wl →
      (∀ (τ : St) (H : Heap) (locs : List Loc) (ls : Array Slot) (pc : Nat), decode cc pc = .ok (.return_, 1) → Post τ → jW D A s.heap (wl τ) H locs → W p l e rm s m args below meth c H locs 0 0 Q (F0 m pc ls [])) →
      ∀ (H : Heap) (ls : Array Slot), jW D A s.heap (wl σ) H [] → lv_has ls maxL (lv_args 0 av) → W p l e rm s m args below meth c H [] 0 0 Q (F0 m 0 ls [])) : JMv l y cc maxL rm D tys A wl av σ Post := by
  refine Met.ofW hy rfl ?_
  intro p e s m args below meth c s₁ B hml hv
  obtain ⟨rfl, hP, hK, hN⟩ := hv
  have hts := atoms_spec (ws := .code y cc maxL none :: TBw) B.pre
  have hown' : s.vm.findClass own = some m.cls := by rw [← hown]; exact findClass_of_methodNamed B.named
  have hlocks := B.notSynchronized
  rw [lg_entry_eq]
  exact body _ _ _ _ _ _ _ _ _ ⟨⟨B.exec, B.bytes, hml, hown', fun w h => hts w (List.mem_cons_of_mem _ h)⟩, hK, hD, hN⟩ (fun τ H locs ls pc hdg hpost hw => W.vret B.exec B.bytes B.returns (fun t ht hW => ⟨⟨τ, rfl, hpost, by show va_P D vwCl (wl τ) t.heap; rw [ht]; exact hw.1⟩, hw.2.F ht⟩) hw.2.2.2 hdg) s.heap _ ⟨hP, va_S.rf⟩ (lv_entry av hlen)
section JR
variable {p : Program} {l : Launch} {e : Env} {R : Room} {s : State} {m : MethodId} {args : Array Value} {below : List Frame} {meth : Method} {c : Code} {H : Heap} {locs : List Loc} {cells slots : Nat} {Q : State → Prop}
variable {cc : ByteArray} {pc : Nat} {ls : Array Slot} {rest : List Value} {nL : Nat} {own : String} {D : va_G} {tys : List (ClassId × FieldType)} {A : Nat → Prop} {wl : St → va_W} {σ : St}
theorem j_iconst (J : Jx p m c cc nL s args own D tys A wl) (n : Int) (hdg : decode cc pc = .ok (.iconst n, 1)) (k : W p l e R s m args below meth c H locs cells slots Q (F0 m (pc + 1) ls (.int (I n) :: rest))) : W p l e R s m args below meth c H locs cells slots Q (F0 m pc ls rest) := lv_iconst (v := I n) J.1.1 J.1.2.1 hdg rfl k
theorem j_bipush (J : Jx p m c cc nL s args own D tys A wl) (n : Int) (hdg : decode cc pc = .ok (.bipush n, 2)) (hv : (Int8.ofInt n).toInt32 = I n) (k : W p l e R s m args below meth c H locs cells slots Q (F0 m (pc + 2) ls (.int (I n) :: rest))) : W p l e R s m args below meth c H locs cells slots Q (F0 m pc ls rest) := lv_bipush (v := I n) J.1.1 J.1.2.1 hdg hv k
theorem j_sipush (J : Jx p m c cc nL s args own D tys A wl) (n : Int) (hdg : decode cc pc = .ok (.sipush n, 3)) (hv : (Int16.ofInt n).toInt32 = I n) (k : W p l e R s m args below meth c H locs cells slots Q (F0 m (pc + 3) ls (.int (I n) :: rest))) : W p l e R s m args below meth c H locs cells slots Q (F0 m pc ls rest) := lv_sipush (v := I n) J.1.1 J.1.2.1 hdg hv k
theorem j_iload_n (J : Jx p m c cc nL s args own D tys A wl) {k : Fin 4} {i : Nat} {x : Int} (hdg : decode cc pc = .ok (.iload_n k, 1)) (hi : (k : Nat) = i) (hl : ls[i]? = some (.val (.int (I x)))) (kk : W p l e R s m args below meth c H locs cells slots Q (F0 m (pc + 1) ls (.int (I x) :: rest))) : W p l e R s m args below meth c H locs cells slots Q (F0 m pc ls rest) := lv_iload_n J.1.1 J.1.2.1 hdg hi hl kk
theorem j_iload (J : Jx p m c cc nL s args own D tys A wl) {i : Nat} {x : Int} (hdg : decode cc pc = .ok (.iload i, 2)) (hl : ls[i]? = some (.val (.int (I x)))) (kk : W p l e R s m args below meth c H locs cells slots Q (F0 m (pc + 2) ls (.int (I x) :: rest))) : W p l e R s m args below meth c H locs cells slots Q (F0 m pc ls rest) := lv_iload J.1.1 J.1.2.1 hdg hl kk
theorem j_aload_n (J : Jx p m c cc nL s args own D tys A wl) {k : Fin 4} {i : Nat} {x : Nat} (hdg : decode cc pc = .ok (.aload_n k, 1)) (hi : (k : Nat) = i) (hl : ls[i]? = some (.val (.ref x))) (kk : W p l e R s m args below meth c H locs cells slots Q (F0 m (pc + 1) ls (.ref x :: rest))) : W p l e R s m args below meth c H locs cells slots Q (F0 m pc ls rest) := lv_aload_n J.1.1 J.1.2.1 hdg hi hl kk
theorem j_istore_n (J : Jx p m c cc nL s args own D tys A wl) {k : Fin 4} {i : Nat} {x : Int} {lv lv' : List (Nat × Value)} (h : lv_has ls nL lv) (hdg : decode cc pc = .ok (.istore_n k, 1)) (hi : (k : Nat) = i) (hn : i < nL) (hl : (i, Value.int (I x)) :: lv.filter (fun q => !(q.1 == i) && !(q.1 + 1 == i && q.2.category == 2)) = lv')
    (kk : ∀ ls' : Array Slot, lv_has ls' nL lv' → W p l e R s m args below meth c H locs cells slots Q (F0 m (pc + 1) ls' rest)) : W p l e R s m args below meth c H locs cells slots Q (F0 m pc ls (.int (I x) :: rest)) := lv_istore_n J.1.1 J.1.2.1 hdg hi h hn hl kk
theorem j_istore (J : Jx p m c cc nL s args own D tys A wl) {i : Nat} {x : Int} {lv lv' : List (Nat × Value)} (h : lv_has ls nL lv) (hdg : decode cc pc = .ok (.istore i, 2)) (hn : i < nL) (hl : (i, Value.int (I x)) :: lv.filter (fun q => !(q.1 == i) && !(q.1 + 1 == i && q.2.category == 2)) = lv')
    (kk : ∀ ls' : Array Slot, lv_has ls' nL lv' → W p l e R s m args below meth c H locs cells slots Q (F0 m (pc + 2) ls' rest)) : W p l e R s m args below meth c H locs cells slots Q (F0 m pc ls (.int (I x) :: rest)) := lv_istore J.1.1 J.1.2.1 hdg h hn hl kk
theorem j_iinc (J : Jx p m c cc nL s args own D tys A wl) {i k : Nat} {n x : Int} {lv lv' : List (Nat × Value)} (h : lv_has ls nL lv) (hdg : decode cc pc = .ok (.iinc i n, 3)) (hk : lv[k]? = some (i, .int (I x))) (hn : i < nL) (hl : (i, Value.int (I (x + n))) :: lv.filter (fun q => !(q.1 == i) && !(q.1 + 1 == i && q.2.category == 2)) = lv')
    (kk : ∀ ls' : Array Slot, lv_has ls' nL lv' → W p l e R s m args below meth c H locs cells slots Q (F0 m (pc + 3) ls' rest)) : W p l e R s m args below meth c H locs cells slots Q (F0 m pc ls rest) := lv_iinc (v := I (x + n)) J.1.1 J.1.2.1 hdg h hk (I_add x n) hn hl kk
theorem j_iadd (J : Jx p m c cc nL s args own D tys A wl) {a b : Int} (hdg : decode cc pc = .ok (.iadd, 1)) (k : W p l e R s m args below meth c H locs cells slots Q (F0 m (pc + 1) ls (.int (I (a + b)) :: rest))) : W p l e R s m args below meth c H locs cells slots Q (F0 m pc ls (.int (I b) :: .int (I a) :: rest)) := lv_iadd J.1.1 J.1.2.1 hdg (by rw [I_add]; exact k)
theorem j_isub (J : Jx p m c cc nL s args own D tys A wl) {a b : Int} (hdg : decode cc pc = .ok (.isub, 1)) (k : W p l e R s m args below meth c H locs cells slots Q (F0 m (pc + 1) ls (.int (I (a - b)) :: rest))) : W p l e R s m args below meth c H locs cells slots Q (F0 m pc ls (.int (I b) :: .int (I a) :: rest)) := lv_isub J.1.1 J.1.2.1 hdg (by rw [I_sub]; exact k)
theorem j_imul (J : Jx p m c cc nL s args own D tys A wl) {a b : Int} (hdg : decode cc pc = .ok (.imul, 1)) (k : W p l e R s m args below meth c H locs cells slots Q (F0 m (pc + 1) ls (.int (I (a * b)) :: rest))) : W p l e R s m args below meth c H locs cells slots Q (F0 m pc ls (.int (I b) :: .int (I a) :: rest)) := lv_imul J.1.1 J.1.2.1 hdg (by rw [I_mul]; exact k)
theorem j_idiv (J : Jx p m c cc nL s args own D tys A wl) {a b : Int} (h : 0 ≤ a ∧ a < 2147483648 ∧ 0 < b ∧ b < 2147483648) (hdg : decode cc pc = .ok (.idiv, 1)) (k : W p l e R s m args below meth c H locs cells slots Q (F0 m (pc + 1) ls (.int (I (a / b)) :: rest))) : W p l e R s m args below meth c H locs cells slots Q (F0 m pc ls (.int (I b) :: .int (I a) :: rest)) :=
  lv_idiv J.1.1 J.1.2.1 hdg (by rw [← I_0, I_eq ⟨by omega, by omega⟩ rg0]; omega) (by rw [I_div h.1 h.2.1 h.2.2.1 h.2.2.2]; exact k)
theorem j_irem (J : Jx p m c cc nL s args own D tys A wl) {a b : Int} (h : 0 ≤ a ∧ a < 2147483648 ∧ 0 < b ∧ b < 2147483648) (hdg : decode cc pc = .ok (.irem, 1)) (k : W p l e R s m args below meth c H locs cells slots Q (F0 m (pc + 1) ls (.int (I (a % b)) :: rest))) : W p l e R s m args below meth c H locs cells slots Q (F0 m pc ls (.int (I b) :: .int (I a) :: rest)) :=
  lv_irem J.1.1 J.1.2.1 hdg (by rw [← I_0, I_eq ⟨by omega, by omega⟩ rg0]; omega) (by rw [I_rem h.1 h.2.1 h.2.2.1 h.2.2.2]; exact k)
theorem j_dup (J : Jx p m c cc nL s args own D tys A wl) {v : Value} (hdg : decode cc pc = .ok (.dup, 1)) (hv : v.category = 1) (k : W p l e R s m args below meth c H locs cells slots Q (F0 m (pc + 1) ls (v :: v :: rest))) : W p l e R s m args below meth c H locs cells slots Q (F0 m pc ls (v :: rest)) := lv_dup J.1.1 J.1.2.1 hdg hv k
theorem j_dup2 (J : Jx p m c cc nL s args own D tys A wl) {v w : Value} (hdg : decode cc pc = .ok (.dup2, 1)) (hv : v.category = 1) (hw : w.category = 1) (k : W p l e R s m args below meth c H locs cells slots Q (F0 m (pc + 1) ls (v :: w :: v :: w :: rest))) : W p l e R s m args below meth c H locs cells slots Q (F0 m pc ls (v :: w :: rest)) := lv_dup2_11 J.1.1 J.1.2.1 hdg hv hw k
theorem j_pop (J : Jx p m c cc nL s args own D tys A wl) {v : Value} (hdg : decode cc pc = .ok (.pop, 1)) (hv : v.category = 1) (k : W p l e R s m args below meth c H locs cells slots Q (F0 m (pc + 1) ls rest)) : W p l e R s m args below meth c H locs cells slots Q (F0 m pc ls (v :: rest)) := lv_pop J.1.1 J.1.2.1 hdg hv k
theorem j_goto (J : Jx p m c cc nL s args own D tys A wl) {off : Int} (tgt : Nat) (hdg : decode cc pc = .ok (.goto off, 3)) (ht : (pc : Int) + off = (tgt : Int)) (k : W p l e R s m args below meth c H locs cells slots Q (F0 m tgt ls rest)) : W p l e R s m args below meth c H locs cells slots Q (F0 m pc ls rest) := lv_goto J.1.1 J.1.2.1 hdg ht k
theorem j_ldc (J : Jx p m c cc nL s args own D tys A wl) {index : Nat} (v : Int) (hc : Cond.constant own index (I v) ∈ TBw) (hdg : decode cc pc = .ok (.ldc index, 2)) (k : W p l e R s m args below meth c H locs cells slots Q (F0 m (pc + 2) ls (.int (I v) :: rest))) : W p l e R s m args below meth c H locs cells slots Q (F0 m pc ls rest) := lv_ldc J.1.1 J.1.2.1 J.1.2.2.2.1 (J.1.2.2.2.2 _ hc) hdg k
-- GEN
theorem j_icmp_eq (J : Jx p m c cc nL s args own D tys A wl) {off : Int} (tgt : Nat) {a b : Int} (ha : rg a) (hb : rg b) (hdg : decode cc pc = .ok (.if_icmp .eq off, 3)) (ht : (pc : Int) + off = (tgt : Int)) (kt : a = b → W p l e R s m args below meth c H locs cells slots Q (F0 m tgt ls rest)) (kf : ¬ a = b → W p l e R s m args below meth c H locs cells slots Q (F0 m (pc + 3) ls rest)) : W p l e R s m args below meth c H locs cells slots Q (F0 m pc ls (.int (I b) :: .int (I a) :: rest)) := lv_icmp_eq J.1.1 J.1.2.1 hdg ht (fun h => kt ((I_eq ha hb).mp h)) (fun h => kf (by have h2 := mt (I_eq ha hb).mpr h; omega))
theorem j_if_eq (J : Jx p m c cc nL s args own D tys A wl) {off : Int} (tgt : Nat) {a : Int} (ha : rg a) (hdg : decode cc pc = .ok (.ifCond .eq off, 3)) (ht : (pc : Int) + off = (tgt : Int)) (kt : a = 0 → W p l e R s m args below meth c H locs cells slots Q (F0 m tgt ls rest)) (kf : ¬ a = 0 → W p l e R s m args below meth c H locs cells slots Q (F0 m (pc + 3) ls rest)) : W p l e R s m args below meth c H locs cells slots Q (F0 m pc ls (.int (I a) :: rest)) := lv_if_eq J.1.1 J.1.2.1 hdg ht (fun h => kt ((I_eq ha rg0).mp h)) (fun h => kf (by have h2 := mt (I_eq ha rg0).mpr h; omega))
theorem j_icmp_ne (J : Jx p m c cc nL s args own D tys A wl) {off : Int} (tgt : Nat) {a b : Int} (ha : rg a) (hb : rg b) (hdg : decode cc pc = .ok (.if_icmp .ne off, 3)) (ht : (pc : Int) + off = (tgt : Int)) (kt : ¬ a = b → W p l e R s m args below meth c H locs cells slots Q (F0 m tgt ls rest)) (kf : a = b → W p l e R s m args below meth c H locs cells slots Q (F0 m (pc + 3) ls rest)) : W p l e R s m args below meth c H locs cells slots Q (F0 m pc ls (.int (I b) :: .int (I a) :: rest)) := lv_icmp_ne J.1.1 J.1.2.1 hdg ht (fun h => kt (fun h2 => h ((I_eq ha hb).mpr h2))) (fun h => kf ((I_eq ha hb).mp h))
theorem j_if_ne (J : Jx p m c cc nL s args own D tys A wl) {off : Int} (tgt : Nat) {a : Int} (ha : rg a) (hdg : decode cc pc = .ok (.ifCond .ne off, 3)) (ht : (pc : Int) + off = (tgt : Int)) (kt : ¬ a = 0 → W p l e R s m args below meth c H locs cells slots Q (F0 m tgt ls rest)) (kf : a = 0 → W p l e R s m args below meth c H locs cells slots Q (F0 m (pc + 3) ls rest)) : W p l e R s m args below meth c H locs cells slots Q (F0 m pc ls (.int (I a) :: rest)) := lv_if_ne J.1.1 J.1.2.1 hdg ht (fun h => kt (fun h2 => h ((I_eq ha rg0).mpr h2))) (fun h => kf ((I_eq ha rg0).mp h))
theorem j_icmp_lt (J : Jx p m c cc nL s args own D tys A wl) {off : Int} (tgt : Nat) {a b : Int} (ha : rg a) (hb : rg b) (hdg : decode cc pc = .ok (.if_icmp .lt off, 3)) (ht : (pc : Int) + off = (tgt : Int)) (kt : a < b → W p l e R s m args below meth c H locs cells slots Q (F0 m tgt ls rest)) (kf : b ≤ a → W p l e R s m args below meth c H locs cells slots Q (F0 m (pc + 3) ls rest)) : W p l e R s m args below meth c H locs cells slots Q (F0 m pc ls (.int (I b) :: .int (I a) :: rest)) := lv_icmp_lt J.1.1 J.1.2.1 hdg ht (fun h => kt ((I_lt ha hb).mp h)) (fun h => kf (by have h2 := mt (I_lt ha hb).mpr h; omega))
theorem j_if_lt (J : Jx p m c cc nL s args own D tys A wl) {off : Int} (tgt : Nat) {a : Int} (ha : rg a) (hdg : decode cc pc = .ok (.ifCond .lt off, 3)) (ht : (pc : Int) + off = (tgt : Int)) (kt : a < 0 → W p l e R s m args below meth c H locs cells slots Q (F0 m tgt ls rest)) (kf : 0 ≤ a → W p l e R s m args below meth c H locs cells slots Q (F0 m (pc + 3) ls rest)) : W p l e R s m args below meth c H locs cells slots Q (F0 m pc ls (.int (I a) :: rest)) := lv_if_lt J.1.1 J.1.2.1 hdg ht (fun h => kt ((I_lt ha rg0).mp h)) (fun h => kf (by have h2 := mt (I_lt ha rg0).mpr h; omega))
theorem j_icmp_ge (J : Jx p m c cc nL s args own D tys A wl) {off : Int} (tgt : Nat) {a b : Int} (ha : rg a) (hb : rg b) (hdg : decode cc pc = .ok (.if_icmp .ge off, 3)) (ht : (pc : Int) + off = (tgt : Int)) (kt : b ≤ a → W p l e R s m args below meth c H locs cells slots Q (F0 m tgt ls rest)) (kf : a < b → W p l e R s m args below meth c H locs cells slots Q (F0 m (pc + 3) ls rest)) : W p l e R s m args below meth c H locs cells slots Q (F0 m pc ls (.int (I b) :: .int (I a) :: rest)) := lv_icmp_ge J.1.1 J.1.2.1 hdg ht (fun h => kt ((I_le hb ha).mp h)) (fun h => kf (by have h2 := mt (I_le hb ha).mpr h; omega))
theorem j_if_ge (J : Jx p m c cc nL s args own D tys A wl) {off : Int} (tgt : Nat) {a : Int} (ha : rg a) (hdg : decode cc pc = .ok (.ifCond .ge off, 3)) (ht : (pc : Int) + off = (tgt : Int)) (kt : 0 ≤ a → W p l e R s m args below meth c H locs cells slots Q (F0 m tgt ls rest)) (kf : a < 0 → W p l e R s m args below meth c H locs cells slots Q (F0 m (pc + 3) ls rest)) : W p l e R s m args below meth c H locs cells slots Q (F0 m pc ls (.int (I a) :: rest)) := lv_if_ge J.1.1 J.1.2.1 hdg ht (fun h => kt ((I_le rg0 ha).mp h)) (fun h => kf (by have h2 := mt (I_le rg0 ha).mpr h; omega))
theorem j_icmp_gt (J : Jx p m c cc nL s args own D tys A wl) {off : Int} (tgt : Nat) {a b : Int} (ha : rg a) (hb : rg b) (hdg : decode cc pc = .ok (.if_icmp .gt off, 3)) (ht : (pc : Int) + off = (tgt : Int)) (kt : b < a → W p l e R s m args below meth c H locs cells slots Q (F0 m tgt ls rest)) (kf : a ≤ b → W p l e R s m args below meth c H locs cells slots Q (F0 m (pc + 3) ls rest)) : W p l e R s m args below meth c H locs cells slots Q (F0 m pc ls (.int (I b) :: .int (I a) :: rest)) := lv_icmp_gt J.1.1 J.1.2.1 hdg ht (fun h => kt ((I_lt hb ha).mp h)) (fun h => kf (by have h2 := mt (I_lt hb ha).mpr h; omega))
theorem j_if_gt (J : Jx p m c cc nL s args own D tys A wl) {off : Int} (tgt : Nat) {a : Int} (ha : rg a) (hdg : decode cc pc = .ok (.ifCond .gt off, 3)) (ht : (pc : Int) + off = (tgt : Int)) (kt : 0 < a → W p l e R s m args below meth c H locs cells slots Q (F0 m tgt ls rest)) (kf : a ≤ 0 → W p l e R s m args below meth c H locs cells slots Q (F0 m (pc + 3) ls rest)) : W p l e R s m args below meth c H locs cells slots Q (F0 m pc ls (.int (I a) :: rest)) := lv_if_gt J.1.1 J.1.2.1 hdg ht (fun h => kt ((I_lt rg0 ha).mp h)) (fun h => kf (by have h2 := mt (I_lt rg0 ha).mpr h; omega))
theorem j_icmp_le (J : Jx p m c cc nL s args own D tys A wl) {off : Int} (tgt : Nat) {a b : Int} (ha : rg a) (hb : rg b) (hdg : decode cc pc = .ok (.if_icmp .le off, 3)) (ht : (pc : Int) + off = (tgt : Int)) (kt : a ≤ b → W p l e R s m args below meth c H locs cells slots Q (F0 m tgt ls rest)) (kf : b < a → W p l e R s m args below meth c H locs cells slots Q (F0 m (pc + 3) ls rest)) : W p l e R s m args below meth c H locs cells slots Q (F0 m pc ls (.int (I b) :: .int (I a) :: rest)) := lv_icmp_le J.1.1 J.1.2.1 hdg ht (fun h => kt ((I_le ha hb).mp h)) (fun h => kf (by have h2 := mt (I_le ha hb).mpr h; omega))
theorem j_if_le (J : Jx p m c cc nL s args own D tys A wl) {off : Int} (tgt : Nat) {a : Int} (ha : rg a) (hdg : decode cc pc = .ok (.ifCond .le off, 3)) (ht : (pc : Int) + off = (tgt : Int)) (kt : a ≤ 0 → W p l e R s m args below meth c H locs cells slots Q (F0 m tgt ls rest)) (kf : 0 < a → W p l e R s m args below meth c H locs cells slots Q (F0 m (pc + 3) ls rest)) : W p l e R s m args below meth c H locs cells slots Q (F0 m pc ls (.int (I a) :: rest)) := lv_if_le J.1.1 J.1.2.1 hdg ht (fun h => kt ((I_le ha rg0).mp h)) (fun h => kf (by have h2 := mt (I_le ha rg0).mpr h; omega))
theorem I_one_ne : ¬ I 1 = 0 := by decide
theorem j_ifneB (J : Jx p m c cc nL s args own D tys A wl) {off : Int} (tgt : Nat) {P : Prop} {dP : Decidable P} (hdg : decode cc pc = .ok (.ifCond .ne off, 3)) (ht : (pc : Int) + off = (tgt : Int)) (kt : P → W p l e R s m args below meth c H locs cells slots Q (F0 m tgt ls rest)) (kf : ¬ P → W p l e R s m args below meth c H locs cells slots Q (F0 m (pc + 3) ls rest)) : W p l e R s m args below meth c H locs cells slots Q (F0 m pc ls (.int (I (@ite Int P dP 1 0)) :: rest)) := lv_if_ne J.1.1 J.1.2.1 hdg ht (fun h => kt (by by_cases hP : P; exact hP; rw [if_neg hP] at h; exact absurd rfl h)) (fun h => kf (fun hP => by rw [if_pos hP] at h; exact I_one_ne h))
theorem j_ifeqB (J : Jx p m c cc nL s args own D tys A wl) {off : Int} (tgt : Nat) {P : Prop} {dP : Decidable P} (hdg : decode cc pc = .ok (.ifCond .eq off, 3)) (ht : (pc : Int) + off = (tgt : Int)) (kt : ¬ P → W p l e R s m args below meth c H locs cells slots Q (F0 m tgt ls rest)) (kf : P → W p l e R s m args below meth c H locs cells slots Q (F0 m (pc + 3) ls rest)) : W p l e R s m args below meth c H locs cells slots Q (F0 m pc ls (.int (I (@ite Int P dP 1 0)) :: rest)) := lv_if_eq J.1.1 J.1.2.1 hdg ht (fun h => kt (fun hP => by rw [if_pos hP] at h; exact I_one_ne h)) (fun h => kf (by by_cases hP : P; exact hP; rw [if_neg hP] at h; exact absurd rfl h))
theorem j_tableIn (J : Jx p m c cc nL s args own D tys A wl) {dflt lo hi off : Int} {offs : Array Int} {len : Nat} {x : Int} (k : Int) (tgt : Nat) (hx : x = k) (hr : rg k) (hdg : decode cc pc = .ok (.tableswitch dflt lo hi offs, len)) (h1 : lo ≤ k) (h2 : k ≤ hi) (ho : offs[(k - lo).toNat]? = some off) (ht : (pc : Int) + off = (tgt : Int)) (kk : W p l e R s m args below meth c H locs cells slots Q (F0 m tgt ls rest)) : W p l e R s m args below meth c H locs cells slots Q (F0 m pc ls (.int (I x) :: rest)) := by
  subst hx
  exact lv_tableIn J.1.1 J.1.2.1 hdg (by rw [I_toInt hr]; omega) (by rw [I_toInt hr]; omega) (by rw [I_toInt hr]; exact ho) ht kk
theorem j_tableOut (J : Jx p m c cc nL s args own D tys A wl) {dflt lo hi : Int} {offs : Array Int} {len : Nat} {x : Int} (tgt : Nat) (hr : rg x) (hdg : decode cc pc = .ok (.tableswitch dflt lo hi offs, len)) (h : x < lo ∨ hi < x) (ht : (pc : Int) + dflt = (tgt : Int)) (kk : W p l e R s m args below meth c H locs cells slots Q (F0 m tgt ls rest)) : W p l e R s m args below meth c H locs cells slots Q (F0 m pc ls (.int (I x) :: rest)) := lv_tableOut J.1.1 J.1.2.1 hdg (by rw [I_toInt hr]; exact h) ht kk
theorem j_get (J : Jx p m c cc nL s args own D tys A wl) (hw : jW D A s.heap (wl σ) H locs) {index j ci N : Nat} {b : Nat} {fs : List Value} {C : String} {T : u_T} {v : Value} (he : (wl σ)[j]? = some (b, .inr (ci, fs))) (hfi : ∀ w ∈ u_ws C T N, w ∈ TBw) (hc : vwCl[ci]? = some (C, T, N)) (k : Nat) (hk : k < N) (hC : (T k).1 = C) (hlk : Cond.fieldLink own index C (T k).2.1 (T k).2.2.1 ∈ TBw) (hv : fs[k]? = some v) (hdg : decode cc pc = .ok (.getfield index, 3)) (kk : W p l e R s m args below meth c H locs cells slots Q (F0 m (pc + 3) ls (v :: rest))) : W p l e R s m args below meth c H locs cells slots Q (F0 m pc ls (.ref b :: rest)) := va_get J.1.1 J.1.2.1 J.1.2.2.2.2 hfi J.1.2.2.2.1 J.2.1 hw.1 j he hc k hk (J.1.2.2.2.2 _ hlk) (fun x h => by rw [hC] at h; exact h) hv hdg kk
theorem j_put (J : Jx p m c cc nL s args own D tys A wl) (hw : jW D A s.heap (wl σ) H locs) {index j ci N : Nat} {b : Nat} {fs : List Value} {C : String} {T : u_T} {ty0 : Nat → FieldType} {v : Int} {τ : St} (he : (wl σ)[j]? = some (b, .inr (ci, fs))) (hfi : ∀ w ∈ u_ws C T N, w ∈ TBw) (hty : ∀ k, k < N → parseFieldDescriptor (T k).2.2.1 = some (ty0 k)) (hnm : ∀ a, a < N → ∀ b, b < N → a ≠ b → (T a).2.1 ≠ (T b).2.1) (hc : vwCl[ci]? = some (C, T, N)) (k : Nat) (hk : k < N) (hC : (T k).1 = C) (hlk : Cond.fieldLink own index C (T k).2.1 (T k).2.2.1 ∈ TBw) (hfin : (T k).2.2.2 = false) (hI : (T k).2.2.1 = "I") (hlen : k < fs.length) (hset : (wl σ).set j (b, .inr (ci, fs.set k (.int (I v)))) = wl τ) (hdg : decode cc pc = .ok (.putfield index, 3)) (kk : ∀ (H1 : Heap) (locs1 : List Loc), jW D A s.heap (wl τ) H1 locs1 → W p l e R s m args below meth c H1 locs1 cells slots Q (F0 m (pc + 3) ls rest)) : W p l e R s m args below meth c H locs cells slots Q (F0 m pc ls (.int (I v) :: .ref b :: rest)) := va_put J.1.1 J.1.2.1 J.1.2.2.2.2 hfi ty0 hty hnm J.1.2.2.2.1 J.2.1 hw.1 (J.2.2.1 σ) hw.2 j he hc k hk (J.1.2.2.2.2 _ hlk) (fun x h => by rw [hC] at h; exact h) hfin (ty := .int) (by rw [hI]; decide +kernel) rfl rfl hlen hdg (fun H1 locs1 hP _ hS => kk H1 locs1 ⟨by rw [← hset]; exact hP, hS⟩)
theorem j_iald (J : Jx p m c cc nL s args own D tys A wl) (hw : jW D A s.heap (wl σ) H locs) {j t0 n k : Nat} {b : Nat} {cA : ClassId} {i : Int} (he : (wl σ)[j]? = some (b, .inl (cA, n, .inl fun q : Nat => I (σ k q)))) (ht : tys[t0]? = some (cA, .int)) (hn : n < 2147483648) (hi : 0 ≤ i ∧ i < n) (hdg : decode cc pc = .ok (.iaload, 1)) (kk : W p l e R s m args below meth c H locs cells slots Q (F0 m (pc + 1) ls (.int (I (σ k i)) :: rest))) : W p l e R s m args below meth c H locs cells slots Q (F0 m pc ls (.int (I i) :: .ref b :: rest)) := va_iald J.1.1 J.1.2.1 J.2.1 hw.1 j t0 he ht (I_in hi.1 hi.2 hn) hdg (by show W p l e R s m args below meth c H locs cells slots Q (F0 m (pc + 1) ls (.int (I (σ k ((I i).toNatClampNeg : Nat))) :: rest)); rw [I_cl hi.1 (by omega)]; exact kk)
theorem j_iast (J : Jx p m c cc nL s args own D tys A wl) (hw : jW D A s.heap (wl σ) H locs) {j t0 n k : Nat} {b : Nat} {cA : ClassId} {i v : Int} (he : (wl σ)[j]? = some (b, .inl (cA, n, .inl fun q : Nat => I (σ k q)))) (ht : tys[t0]? = some (cA, .int)) (hn : n < 2147483648) (hi : 0 ≤ i ∧ i < n) (hset : (wl σ).set j (b, .inl (cA, n, .inl fun q : Nat => I (st σ k i v k q))) = wl (st σ k i v)) (hdg : decode cc pc = .ok (.iastore, 1)) (kk : ∀ (H1 : Heap) (locs1 : List Loc), jW D A s.heap (wl (st σ k i v)) H1 locs1 → W p l e R s m args below meth c H1 locs1 cells slots Q (F0 m (pc + 1) ls rest)) : W p l e R s m args below meth c H locs cells slots Q (F0 m pc ls (.int (I v) :: .int (I i) :: .ref b :: rest)) := va_iast J.1.1 J.1.2.1 J.2.1 hw.1 (J.2.2.1 σ) hw.2 j t0 he ht (I_in hi.1 hi.2 hn) hdg (fun H1 locs1 hP _ hS => kk H1 locs1 ⟨by rw [← hset, ← I_upd σ k hi.1 (by omega)]; exact hP, hS⟩)
theorem j_zald (J : Jx p m c cc nL s args own D tys A wl) (hw : jW D A s.heap (wl σ) H locs) {j t0 n k : Nat} {b : Nat} {cA : ClassId} {i : Int} (he : (wl σ)[j]? = some (b, .inl (cA, n, .inl fun q : Nat => I (σ k q)))) (ht : tys[t0]? = some (cA, .boolean)) (hn : n < 2147483648) (hi : 0 ≤ i ∧ i < n) (hdg : decode cc pc = .ok (.baload, 1)) (kk : W p l e R s m args below meth c H locs cells slots Q (F0 m (pc + 1) ls (.int (I (σ k i)) :: rest))) : W p l e R s m args below meth c H locs cells slots Q (F0 m pc ls (.int (I i) :: .ref b :: rest)) := va_zald J.1.1 J.1.2.1 J.2.1 hw.1 j t0 he ht (I_in hi.1 hi.2 hn) hdg (by show W p l e R s m args below meth c H locs cells slots Q (F0 m (pc + 1) ls (.int (I (σ k ((I i).toNatClampNeg : Nat))) :: rest)); rw [I_cl hi.1 (by omega)]; exact kk)
theorem j_zast (J : Jx p m c cc nL s args own D tys A wl) (hw : jW D A s.heap (wl σ) H locs) {j t0 n k : Nat} {b : Nat} {cA : ClassId} {i v : Int} (he : (wl σ)[j]? = some (b, .inl (cA, n, .inl fun q : Nat => I (σ k q)))) (ht : tys[t0]? = some (cA, .boolean)) (hn : n < 2147483648) (hi : 0 ≤ i ∧ i < n) (hv : vp_nar .boolean (I v) = I v) (hset : (wl σ).set j (b, .inl (cA, n, .inl fun q : Nat => I (st σ k i v k q))) = wl (st σ k i v)) (hdg : decode cc pc = .ok (.bastore, 1)) (kk : ∀ (H1 : Heap) (locs1 : List Loc), jW D A s.heap (wl (st σ k i v)) H1 locs1 → W p l e R s m args below meth c H1 locs1 cells slots Q (F0 m (pc + 1) ls rest)) : W p l e R s m args below meth c H locs cells slots Q (F0 m pc ls (.int (I v) :: .int (I i) :: .ref b :: rest)) := va_zast J.1.1 J.1.2.1 J.2.1 hw.1 (J.2.2.1 σ) hw.2 j t0 he ht (I_in hi.1 hi.2 hn) hdg (fun H1 locs1 hP _ hS => kk H1 locs1 ⟨by rw [← hset, ← I_upd σ k hi.1 (by omega), ← hv]; exact hP, hS⟩)
theorem j_alen (J : Jx p m c cc nL s args own D tys A wl) (hw : jW D A s.heap (wl σ) H locs) {j t0 n : Nat} {b : Nat} {cA : ClassId} {f : Nat → Int32} (he : (wl σ)[j]? = some (b, .inl (cA, n, .inl f))) (ht : tys[t0]? = some (cA, .int)) (hdg : decode cc pc = .ok (.arraylength, 1)) (kk : W p l e R s m args below meth c H locs cells slots Q (F0 m (pc + 1) ls (.int (I n) :: rest))) : W p l e R s m args below meth c H locs cells slots Q (F0 m pc ls (.ref b :: rest)) := va_alen J.1.1 J.1.2.1 J.2.1 hw.1 j t0 he ht (v := I n) (nI_I n) hdg kk
theorem I_max {a b : Int} (ha : rg a) (hb : rg b) : (if I a < I b then I b else I a) = I (max a b) := by rw [Int.max_def]; by_cases h : a < b; rw [if_pos ((I_lt ha hb).mpr h), if_pos (by omega)]; rw [if_neg (mt (I_lt ha hb).mp h)]; split; (rw [show a = b by omega]); rfl
theorem j_max (J : Jx p m c cc nL s args own D tys A wl) {index : Nat} {a b : Int} (ha : rg a) (hb : rg b) (hsz : ls.size = nL) (hlk : Cond.methodLink own index Lib.Math.max.name ∈ TBw) (hR : 1 ≤ R.frames ∧ (rest.map fun v => v.category).sum + 13 ≤ R.locals ∧ cells ≤ R.cells ∧ slots ≤ R.slots) (hdg : decode cc pc = .ok (.invokestatic index, 3)) (kk : W p l e R s m args below meth c H locs cells slots Q (F0 m (pc + 3) ls (.int (I (max a b)) :: rest))) : W p l e R s m args below meth c H locs cells slots Q (F0 m pc ls (.int (I b) :: .int (I a) :: rest)) := va_mmax J.1.1 J.1.2.1 (by rw [J.1.2.2.1, hsz]) J.1.2.2.2.1 (J.1.2.2.2.2 _ hlk) (J.1.2.2.2.2 _ sta_max) (J.1.2.2.2.2 _ ini_Math) (J.1.2.2.2.2 _ co_max) hR.1 hR.2.1 hR.2.2.1 hR.2.2.2 hdg (by rw [I_max ha hb]; exact kk)
theorem I_min {a b : Int} (ha : rg a) (hb : rg b) : (if I b < I a then I b else I a) = I (min a b) := by rw [Int.min_def]; by_cases h : b < a; rw [if_pos ((I_lt hb ha).mpr h), if_neg (by omega)]; rw [if_neg (mt (I_lt hb ha).mp h), if_pos (by omega)]
theorem j_min (J : Jx p m c cc nL s args own D tys A wl) {index : Nat} {a b : Int} (ha : rg a) (hb : rg b) (hsz : ls.size = nL) (hlk : Cond.methodLink own index Lib.Math.min.name ∈ TBw) (hR : 1 ≤ R.frames ∧ (rest.map fun v => v.category).sum + 13 ≤ R.locals ∧ cells ≤ R.cells ∧ slots ≤ R.slots) (hdg : decode cc pc = .ok (.invokestatic index, 3)) (kk : W p l e R s m args below meth c H locs cells slots Q (F0 m (pc + 3) ls (.int (I (min a b)) :: rest))) : W p l e R s m args below meth c H locs cells slots Q (F0 m pc ls (.int (I b) :: .int (I a) :: rest)) := va_mmin J.1.1 J.1.2.1 (by rw [J.1.2.2.1, hsz]) J.1.2.2.2.1 (J.1.2.2.2.2 _ hlk) (J.1.2.2.2.2 _ sta_min) (J.1.2.2.2.2 _ ini_Math) (J.1.2.2.2.2 _ co_min) hR.1 hR.2.1 hR.2.2.1 hR.2.2.2 hdg (by rw [I_min ha hb]; exact kk)
theorem I_abs {a : Int} (ha : rg a) : (if 0 ≤ I a then I a else 0 - I a) = I (if 0 ≤ a then a else -a) := by
  rw [← I_0]
  by_cases h : 0 ≤ a
  · rw [if_pos ((I_le rg0 ha).mpr h), if_pos h]
  · rw [if_neg (mt (I_le rg0 ha).mp h), if_neg h, I_sub]; congr 1; omega
theorem j_abs (J : Jx p m c cc nL s args own D tys A wl) {index : Nat} {a : Int} (ha : rg a) (hsz : ls.size = nL) (hlk : Cond.methodLink own index Lib.Math.abs.name ∈ TBw) (hR : 1 ≤ R.frames ∧ (rest.map fun v => v.category).sum + 13 ≤ R.locals ∧ cells ≤ R.cells ∧ slots ≤ R.slots) (hdg : decode cc pc = .ok (.invokestatic index, 3)) (kk : W p l e R s m args below meth c H locs cells slots Q (F0 m (pc + 3) ls (.int (I (if 0 ≤ a then a else -a)) :: rest))) : W p l e R s m args below meth c H locs cells slots Q (F0 m pc ls (.int (I a) :: rest)) := va_mabs J.1.1 J.1.2.1 (by rw [J.1.2.2.1, hsz]) J.1.2.2.2.1 (J.1.2.2.2.2 _ hlk) (J.1.2.2.2.2 _ sta_abs) (J.1.2.2.2.2 _ ini_Math) (J.1.2.2.2.2 _ co_abs) hR.1 hR.2.1 hR.2.2.1 hR.2.2.2 hdg (by rw [I_abs ha]; exact kk)
theorem gd_V {index maxL : Nat} {y : MethodName} {bytes : ByteArray} {ret : Option FieldType} {C : String} (hlk : Cond.methodLink own index y ∈ TBw) (hin : Cond.instanceMethod y ∈ TBw) (hse : Cond.selects C y y ∈ TBw) (hini : Cond.initialized C ∈ TBw) (hco : Cond.code y bytes maxL ret ∈ TBw) : GoodIn TBw (wsV own index C y (.code y bytes maxL ret :: TBw)) := by
  intro w hw
  unfold wsV at hw
  simp only [List.mem_append, List.mem_cons, List.not_mem_nil, or_false] at hw
  rcases hw with (rfl | rfl | rfl | rfl) | rfl | h
  · exact tb_good _ hlk
  · exact tb_good _ hin
  · exact tb_good _ hse
  · exact tb_good _ hini
  · exact tb_good _ hco
  · exact tb_good _ h
theorem gd_S {index maxL : Nat} {y : MethodName} {bytes : ByteArray} {ret : Option FieldType} (hlk : Cond.methodLink own index y ∈ TBw) (hst : Cond.static y ∈ TBw) (hini : Cond.initialized own ∈ TBw) (hco : Cond.code y bytes maxL ret ∈ TBw) : GoodIn TBw (wsS own index y (.code y bytes maxL ret :: TBw)) := by
  intro w hw
  unfold wsS at hw
  simp only [List.mem_append, List.mem_cons, List.not_mem_nil, or_false] at hw
  rcases hw with (rfl | rfl | rfl) | rfl | h
  · exact tb_good _ hlk
  · exact tb_good _ hst
  · exact tb_good _ hini
  · exact tb_good _ hco
  · exact tb_good _ h
theorem gd_C {maxL : Nat} {y : MethodName} {bytes : ByteArray} {ret : Option FieldType} (hco : Cond.code y bytes maxL ret ∈ TBw) : GoodIn TBw (.code y bytes maxL ret :: TBw) := by
  intro w hw
  rcases List.mem_cons.mp hw with rfl | h
  · exact tb_good _ hco
  · exact tb_good _ h
theorem j_callVi {index j ci n b maxL : Nat} {y : MethodName} {bytes : ByteArray} {ret : Option FieldType} {rmc : Room} {As stk fs : List Value} {C : String} {q : vw_C} {Post : Int → St → Prop} (J : Jx p m c cc nL s args own D tys A wl) (hw : jW D A s.heap (wl σ) H locs)  (hM : JMi l y bytes maxL ret rmc D tys A wl (.ref b :: As) σ Post) (hlk : Cond.methodLink own index y ∈ TBw) (hin : Cond.instanceMethod y ∈ TBw) (hse : Cond.selects C y y ∈ TBw) (hini : Cond.initialized C ∈ TBw) (hco : Cond.code y bytes maxL ret ∈ TBw) (hd : y.cls = C ∧ y.cls ≠ "java/lang/invoke/MethodHandle" ∧ y.cls ≠ "java/lang/invoke/VarHandle" ∧ (parseMethodDescriptor y.desc).map (fun d => d.parameters.length) = some n) (hR : rmc.cells = 0 ∧ rmc.slots = 0 ∧ rmc.frames + 1 ≤ R.frames ∧ 8 + (maxL + 11) + rmc.locals ≤ R.locals) (he : (wl σ)[j]? = some (b, .inr (ci, fs))) (hc : vwCl[ci]? = some q) (hq : q.1 = C) (hn : As.length = n) (hroom : (rest.map fun v => v.category).sum ≤ 8) (hsz : ls.size = nL) (hcs : cells ≤ R.cells ∧ slots ≤ R.slots) (hstk : stk = As.reverse ++ .ref b :: rest) (hdg : decode cc pc = .ok (.invokevirtual index, 3)) (kk : ∀ (r : Int) (τ : St) (H1 : Heap) (locs1 : List Loc), Post r τ → jW D A s.heap (wl τ) H1 locs1 → W p l e R s m args below meth c H1 locs1 cells slots Q (F0 m (pc + 3) ls (.int (I r) :: rest))) : W p l e R s m args below meth c H locs cells slots Q (F0 m pc ls stk) := by
  subst hstk
  subst hq
  refine va_calli (va_runV (As := As) (rest := rest) J.1 hM (cwV n J.1.2.2.2.2 (gd_V hlk hin hse hini hco) rfl hR.1 hR.2.1 hd ⟨hR.2.2.1, hR.2.2.2⟩) ⟨jPre.blind, va_recv J.2.1 hw.1 hc he, fun U hU hW => ⟨rfl, by rw [hU]; exact hw.1, va_K.moved hW.alike J.2.1, NW.moved hW J.2.2.2⟩⟩ rfl hn hsz rfl (lv_room hroom) hdg ⟨hcs.1, hcs.2⟩) hw.2 (fun q _ h => h) (fun q h => h) (fun v u t H1 locs1 ht hvm hp hB hz hk hS => ?_)
  obtain ⟨r, rfl, hpost⟩ := hp
  exact kk r u H1 locs1 hpost ⟨by rw [← ht]; exact hB, hS⟩
theorem j_callSi {index n maxL : Nat} {y : MethodName} {bytes : ByteArray} {ret : Option FieldType} {rmc : Room} {As stk : List Value} {Post : Int → St → Prop} (J : Jx p m c cc nL s args own D tys A wl) (hw : jW D A s.heap (wl σ) H locs)  (hM : JMi l y bytes maxL ret rmc D tys A wl As σ Post) (hlk : Cond.methodLink own index y ∈ TBw) (hst : Cond.static y ∈ TBw) (hini : Cond.initialized own ∈ TBw) (hco : Cond.code y bytes maxL ret ∈ TBw) (hd : y.cls = own ∧ y.cls ≠ "java/lang/invoke/MethodHandle" ∧ y.cls ≠ "java/lang/invoke/VarHandle" ∧ (parseMethodDescriptor y.desc).map (fun d => d.parameters.length) = some n) (hR : rmc.cells = 0 ∧ rmc.slots = 0 ∧ rmc.frames + 1 ≤ R.frames ∧ 8 + (maxL + 11) + rmc.locals ≤ R.locals) (hn : As.length = n) (hroom : (rest.map fun v => v.category).sum ≤ 8) (hsz : ls.size = nL) (hcs : cells ≤ R.cells ∧ slots ≤ R.slots) (hstk : stk = As.reverse ++ rest) (hdg : decode cc pc = .ok (.invokestatic index, 3)) (kk : ∀ (r : Int) (τ : St) (H1 : Heap) (locs1 : List Loc), Post r τ → jW D A s.heap (wl τ) H1 locs1 → W p l e R s m args below meth c H1 locs1 cells slots Q (F0 m (pc + 3) ls (.int (I r) :: rest))) : W p l e R s m args below meth c H locs cells slots Q (F0 m pc ls stk) := by
  subst hstk
  refine va_calli (va_runS (As := As) (rest := rest) J.1 hM (cwS n J.1.2.2.2.2 (gd_S hlk hst hini hco) rfl hR.1 hR.2.1 hd ⟨hR.2.2.1, hR.2.2.2⟩) ⟨jPre.blind, fun U hU hW => ⟨rfl, by rw [hU]; exact hw.1, va_K.moved hW.alike J.2.1, NW.moved hW J.2.2.2⟩⟩ rfl hn hsz rfl (lv_room hroom) hdg ⟨hcs.1, hcs.2⟩) hw.2 (fun q _ h => h) (fun q h => h) (fun v u t H1 locs1 ht hvm hp hB hz hk hS => ?_)
  obtain ⟨r, rfl, hpost⟩ := hp
  exact kk r u H1 locs1 hpost ⟨by rw [← ht]; exact hB, hS⟩
theorem j_callNi {index n maxL : Nat} {y : MethodName} {bytes : ByteArray} {ret : Option FieldType} {rmc : Room} {As stk : List Value} {host : String} {Post : Int → St → Prop} (J : Jx p m c cc nL s args own D tys A wl) (hw : jW D A s.heap (wl σ) H locs)  (hM : JMi l y bytes maxL ret rmc D tys A wl As σ Post) (hlk : Cond.methodLinkNest own index y host ∈ nwList) (hst : Cond.static y ∈ TBw) (hini : Cond.initialized y.cls ∈ TBw) (hco : Cond.code y bytes maxL ret ∈ TBw) (hd : y.cls ≠ "java/lang/invoke/MethodHandle" ∧ y.cls ≠ "java/lang/invoke/VarHandle" ∧ (parseMethodDescriptor y.desc).map (fun d => d.parameters.length) = some n) (hR : rmc.cells = 0 ∧ rmc.slots = 0 ∧ rmc.frames + 1 ≤ R.frames ∧ 8 + (maxL + 11) + rmc.locals ≤ R.locals) (hn : As.length = n) (hroom : (rest.map fun v => v.category).sum ≤ 8) (hsz : ls.size = nL) (hcs : cells ≤ R.cells ∧ slots ≤ R.slots) (hstk : stk = As.reverse ++ rest) (hdg : decode cc pc = .ok (.invokestatic index, 3)) (kk : ∀ (r : Int) (τ : St) (H1 : Heap) (locs1 : List Loc), Post r τ → jW D A s.heap (wl τ) H1 locs1 → W p l e R s m args below meth c H1 locs1 cells slots Q (F0 m (pc + 3) ls (.int (I r) :: rest))) : W p l e R s m args below meth c H locs cells slots Q (F0 m pc ls stk) := by
  subst hstk
  refine va_calli (va_runSN (As := As) (rest := rest) J.1 hM ⟨va_cnB n J.1.2.2.2.2 (gd_C hco) rfl hR.1 hR.2.1 (J.2.2.2 _ hlk) (J.1.2.2.2.2 _ hini) hd ⟨hR.2.2.1, hR.2.2.2⟩, J.1.2.2.2.2 _ hst, trivial⟩ ⟨jPre.blind, fun U hU hW => ⟨rfl, by rw [hU]; exact hw.1, va_K.moved hW.alike J.2.1, NW.moved hW J.2.2.2⟩⟩ rfl hn hsz rfl (lv_room hroom) hdg ⟨hcs.1, hcs.2⟩) hw.2 (fun q _ h => h) (fun q h => h) (fun v u t H1 locs1 ht hvm hp hB hz hk hS => ?_)
  obtain ⟨r, rfl, hpost⟩ := hp
  exact kk r u H1 locs1 hpost ⟨by rw [← ht]; exact hB, hS⟩
theorem j_callVv {index j ci n b maxL : Nat} {y : MethodName} {bytes : ByteArray} {rmc : Room} {As stk fs : List Value} {C : String} {q : vw_C} {Post : St → Prop} (J : Jx p m c cc nL s args own D tys A wl) (hw : jW D A s.heap (wl σ) H locs)  (hM : JMv l y bytes maxL rmc D tys A wl (.ref b :: As) σ Post) (hlk : Cond.methodLink own index y ∈ TBw) (hin : Cond.instanceMethod y ∈ TBw) (hse : Cond.selects C y y ∈ TBw) (hini : Cond.initialized C ∈ TBw) (hco : Cond.code y bytes maxL none ∈ TBw) (hd : y.cls = C ∧ y.cls ≠ "java/lang/invoke/MethodHandle" ∧ y.cls ≠ "java/lang/invoke/VarHandle" ∧ (parseMethodDescriptor y.desc).map (fun d => d.parameters.length) = some n) (hR : rmc.cells = 0 ∧ rmc.slots = 0 ∧ rmc.frames + 1 ≤ R.frames ∧ 8 + (maxL + 11) + rmc.locals ≤ R.locals) (he : (wl σ)[j]? = some (b, .inr (ci, fs))) (hc : vwCl[ci]? = some q) (hq : q.1 = C) (hn : As.length = n) (hroom : (rest.map fun v => v.category).sum ≤ 8) (hsz : ls.size = nL) (hcs : cells ≤ R.cells ∧ slots ≤ R.slots) (hstk : stk = As.reverse ++ .ref b :: rest) (hdg : decode cc pc = .ok (.invokevirtual index, 3)) (kk : ∀ (τ : St) (H1 : Heap) (locs1 : List Loc), Post τ → jW D A s.heap (wl τ) H1 locs1 → W p l e R s m args below meth c H1 locs1 cells slots Q (F0 m (pc + 3) ls rest)) : W p l e R s m args below meth c H locs cells slots Q (F0 m pc ls stk) := by
  subst hstk
  subst hq
  refine va_callv (va_runV (As := As) (rest := rest) J.1 hM (cwV n J.1.2.2.2.2 (gd_V hlk hin hse hini hco) rfl hR.1 hR.2.1 hd ⟨hR.2.2.1, hR.2.2.2⟩) ⟨jPre.blind, va_recv J.2.1 hw.1 hc he, fun U hU hW => ⟨rfl, by rw [hU]; exact hw.1, va_K.moved hW.alike J.2.1, NW.moved hW J.2.2.2⟩⟩ rfl hn hsz rfl (lv_room hroom) hdg ⟨hcs.1, hcs.2⟩) hw.2 (fun q _ h => h) (fun q h => h) (fun u t H1 locs1 ht hvm hp hB hz hk hS => ?_)
  exact kk u H1 locs1 hp ⟨by rw [← ht]; exact hB, hS⟩
end JR
end
section
/-! the worlds: the class with all that is nested in it, the reference; a state is read off both by the same numbers -/
def lenX (k : Nat) : Nat := match k with
  | 0 => 5
  | 1 => 120
  | 2 => 120
  | 3 => 120
  | 4 => 120
  | 5 => 120
  | 6 => 120
  | 7 => 12
  | 8 => 31
  | 9 => 12
  | 10 => 3
  | 11 => 3
  | 12 => 3
  | 13 => 8
  | 14 => 8
  | 15 => 8
  | 16 => 720
  | 17 => 6
  | _ => 0
def wsX (cI : ClassId) (ad : Nat → Nat) (σ : St) : va_W := [(ad 0, .inr (9, [.ref (ad 9), .ref (ad 1), .ref (ad 2), .ref (ad 3), .ref (ad 4), .ref (ad 5), .ref (ad 6), .ref (ad 7), .ref (ad 8), .int (I (σ 18 7)), .int (I (σ 18 8)), .int (I (σ 18 9))])), (ad 1, .inr (1, [.ref (ad 11), .ref (ad 13), .ref (ad 15), .int (I (σ 18 0)), .int (I (σ 18 1)), .int (I (σ 18 2))])), (ad 2, .inr (0, [.ref (ad 17), .ref (ad 19), .ref (ad 21), .int (I (σ 18 3)), .int (I (σ 18 4)), .int (I (σ 18 5))])), (ad 3, .inr (8, [.ref (ad 23)])), (ad 4, .inr (6, [.ref (ad 25)])), (ad 5, .inr (3, [.ref (ad 27), .int (I (σ 18 10)), .int (I (σ 18 11)), .int (I (σ 18 12))])), (ad 6, .inr (7, [.ref (ad 29), .ref (ad 31), .ref (ad 33)])), (ad 7, .inr (4, [.ref (ad 35), .ref (ad 37), .ref (ad 39), .int (I (σ 18 6))])), (ad 8, .inr (5, [.ref (ad 41), .ref (ad 43)])), (ad 9, .inr (2, [.ref (ad 10)])), (ad 10, .inl (cI, 5, .inl fun q : Nat => I (σ 0 q))), (ad 11, .inr (2, [.ref (ad 12)])), (ad 12, .inl (cI, 120, .inl fun q : Nat => I (σ 1 q))), (ad 13, .inr (2, [.ref (ad 14)])), (ad 14, .inl (cI, 120, .inl fun q : Nat => I (σ 2 q))), (ad 15, .inr (2, [.ref (ad 16)])), (ad 16, .inl (cI, 120, .inl fun q : Nat => I (σ 3 q))), (ad 17, .inr (2, [.ref (ad 18)])), (ad 18, .inl (cI, 120, .inl fun q : Nat => I (σ 4 q))), (ad 19, .inr (2, [.ref (ad 20)])), (ad 20, .inl (cI, 120, .inl fun q : Nat => I (σ 5 q))), (ad 21, .inr (2, [.ref (ad 22)])), (ad 22, .inl (cI, 120, .inl fun q : Nat => I (σ 6 q))), (ad 23, .inr (2, [.ref (ad 24)])), (ad 24, .inl (cI, 12, .inl fun q : Nat => I (σ 7 q))), (ad 25, .inr (2, [.ref (ad 26)])), (ad 26, .inl (cI, 31, .inl fun q : Nat => I (σ 8 q))), (ad 27, .inr (2, [.ref (ad 28)])), (ad 28, .inl (cI, 12, .inl fun q : Nat => I (σ 9 q))), (ad 29, .inr (2, [.ref (ad 30)])), (ad 30, .inl (cI, 3, .inl fun q : Nat => I (σ 10 q))), (ad 31, .inr (2, [.ref (ad 32)])), (ad 32, .inl (cI, 3, .inl fun q : Nat => I (σ 11 q))), (ad 33, .inr (2, [.ref (ad 34)])), (ad 34, .inl (cI, 3, .inl fun q : Nat => I (σ 12 q))), (ad 35, .inr (2, [.ref (ad 36)])), (ad 36, .inl (cI, 8, .inl fun q : Nat => I (σ 13 q))), (ad 37, .inr (2, [.ref (ad 38)])), (ad 38, .inl (cI, 8, .inl fun q : Nat => I (σ 14 q))), (ad 39, .inr (2, [.ref (ad 40)])), (ad 40, .inl (cI, 8, .inl fun q : Nat => I (σ 15 q))), (ad 41, .inr (2, [.ref (ad 42)])), (ad 42, .inl (cI, 720, .inl fun q : Nat => I (σ 16 q))), (ad 43, .inr (2, [.ref (ad 44)])), (ad 44, .inl (cI, 6, .inl fun q : Nat => I (σ 17 q)))]
def wsM (cI cZ : ClassId) (ad : Nat → Nat) (σ : St) : va_W := [(ad 0, .inr (10, [.int (I (σ 18 0)), .int (I (σ 18 1)), .ref (ad 2), .ref (ad 3), .ref (ad 5), .ref (ad 6), .ref (ad 4), .ref (ad 1), .ref (ad 8), .ref (ad 12), .ref (ad 13), .ref (ad 11), .ref (ad 9), .int (I (σ 18 6)), .ref (ad 14), .ref (ad 15), .ref (ad 16), .ref (ad 18), .ref (ad 17), .int (I (σ 18 7)), .int (I (σ 18 8)), .int (I (σ 18 9)), .int (I (σ 18 3)), .int (I (σ 18 4)), .int (I (σ 18 5)), .int (I (σ 18 2)), .int (I (σ 18 12))])), (ad 1, .inl (cI, 5, .inl fun q : Nat => I (σ 0 q))), (ad 2, .inl (cI, 120, .inl fun q : Nat => I (σ 1 q))), (ad 3, .inl (cI, 120, .inl fun q : Nat => I (σ 2 q))), (ad 4, .inl (cI, 120, .inl fun q : Nat => I (σ 3 q))), (ad 5, .inl (cI, 120, .inl fun q : Nat => I (σ 4 q))), (ad 6, .inl (cI, 120, .inl fun q : Nat => I (σ 5 q))), (ad 8, .inl (cI, 12, .inl fun q : Nat => I (σ 7 q))), (ad 9, .inl (cI, 31, .inl fun q : Nat => I (σ 8 q))), (ad 11, .inl (cI, 3, .inl fun q : Nat => I (σ 10 q))), (ad 12, .inl (cI, 3, .inl fun q : Nat => I (σ 11 q))), (ad 13, .inl (cI, 3, .inl fun q : Nat => I (σ 12 q))), (ad 14, .inl (cI, 8, .inl fun q : Nat => I (σ 13 q))), (ad 15, .inl (cI, 8, .inl fun q : Nat => I (σ 14 q))), (ad 16, .inl (cI, 8, .inl fun q : Nat => I (σ 15 q))), (ad 17, .inl (cI, 720, .inl fun q : Nat => I (σ 16 q))), (ad 18, .inl (cZ, 6, .inl fun q : Nat => I (σ 17 q)))]
theorem wsX_num {cI : ClassId} {ad : Nat → Nat} {σ : St} {k : Nat} (hk : k < 18) : (wsX cI ad σ)[9 + 2 * k]? = some (ad (9 + 2 * k), .inr (2, [.ref (ad (10 + 2 * k))])) := by
  match k, hk with
  | 0, _ => exact rfl
  | 1, _ => exact rfl
  | 2, _ => exact rfl
  | 3, _ => exact rfl
  | 4, _ => exact rfl
  | 5, _ => exact rfl
  | 6, _ => exact rfl
  | 7, _ => exact rfl
  | 8, _ => exact rfl
  | 9, _ => exact rfl
  | 10, _ => exact rfl
  | 11, _ => exact rfl
  | 12, _ => exact rfl
  | 13, _ => exact rfl
  | 14, _ => exact rfl
  | 15, _ => exact rfl
  | 16, _ => exact rfl
  | 17, _ => exact rfl
  | n + 18, h => exact absurd h (by omega)
theorem wsX_arr {cI : ClassId} {ad : Nat → Nat} {σ : St} {k : Nat} (hk : k < 18) : (wsX cI ad σ)[10 + 2 * k]? = some (ad (10 + 2 * k), .inl (cI, lenX k, .inl fun q : Nat => I (σ k q))) := by
  match k, hk with
  | 0, _ => exact rfl
  | 1, _ => exact rfl
  | 2, _ => exact rfl
  | 3, _ => exact rfl
  | 4, _ => exact rfl
  | 5, _ => exact rfl
  | 6, _ => exact rfl
  | 7, _ => exact rfl
  | 8, _ => exact rfl
  | 9, _ => exact rfl
  | 10, _ => exact rfl
  | 11, _ => exact rfl
  | 12, _ => exact rfl
  | 13, _ => exact rfl
  | 14, _ => exact rfl
  | 15, _ => exact rfl
  | 16, _ => exact rfl
  | 17, _ => exact rfl
  | n + 18, h => exact absurd h (by omega)
theorem wsX_set {cI : ClassId} {ad : Nat → Nat} {σ : St} {k : Nat} {i v : Int} (hk : k < 18) : (wsX cI ad σ).set (10 + 2 * k) (ad (10 + 2 * k), .inl (cI, lenX k, .inl fun q : Nat => I (st σ k i v k q))) = wsX cI ad (st σ k i v) := by
  match k, hk with
  | 0, _ => exact rfl
  | 1, _ => exact rfl
  | 2, _ => exact rfl
  | 3, _ => exact rfl
  | 4, _ => exact rfl
  | 5, _ => exact rfl
  | 6, _ => exact rfl
  | 7, _ => exact rfl
  | 8, _ => exact rfl
  | 9, _ => exact rfl
  | 10, _ => exact rfl
  | 11, _ => exact rfl
  | 12, _ => exact rfl
  | 13, _ => exact rfl
  | 14, _ => exact rfl
  | 15, _ => exact rfl
  | 16, _ => exact rfl
  | 17, _ => exact rfl
  | n + 18, h => exact absurd h (by omega)
theorem lenX_lt {k : Nat} (hk : k < 18) : lenX k < 2147483648 := by
  match k, hk with
  | 0, _ => exact Nat.le_of_ble_eq_true rfl
  | 1, _ => exact Nat.le_of_ble_eq_true rfl
  | 2, _ => exact Nat.le_of_ble_eq_true rfl
  | 3, _ => exact Nat.le_of_ble_eq_true rfl
  | 4, _ => exact Nat.le_of_ble_eq_true rfl
  | 5, _ => exact Nat.le_of_ble_eq_true rfl
  | 6, _ => exact Nat.le_of_ble_eq_true rfl
  | 7, _ => exact Nat.le_of_ble_eq_true rfl
  | 8, _ => exact Nat.le_of_ble_eq_true rfl
  | 9, _ => exact Nat.le_of_ble_eq_true rfl
  | 10, _ => exact Nat.le_of_ble_eq_true rfl
  | 11, _ => exact Nat.le_of_ble_eq_true rfl
  | 12, _ => exact Nat.le_of_ble_eq_true rfl
  | 13, _ => exact Nat.le_of_ble_eq_true rfl
  | 14, _ => exact Nat.le_of_ble_eq_true rfl
  | 15, _ => exact Nat.le_of_ble_eq_true rfl
  | 16, _ => exact Nat.le_of_ble_eq_true rfl
  | 17, _ => exact Nat.le_of_ble_eq_true rfl
  | n + 18, h => exact absurd h (by omega)
section WR
variable {p : Program} {l : Launch} {e : Env} {R : Room} {s : State} {m : MethodId} {args : Array Value} {below : List Frame} {meth : Method} {c : Code} {H : Heap} {locs : List Loc} {cells slots : Nat} {Q : State → Prop}
variable {cc : ByteArray} {pc : Nat} {ls : Array Slot} {rest : List Value} {nL : Nat} {own : String} {D : va_G} {A : Nat → Prop} {σ : St} {cI cZ : ClassId} {ad : Nat → Nat} {index : Nat}
theorem xg_9_0 (J : Jx p m c cc nL s args own D [(cI, .int), (cZ, .boolean)] A (wsX cI ad)) (hw : jW D A s.heap (wsX cI ad σ) H locs) (hlk : Cond.fieldLink own index "DredgeWays" "rules" "LDredgeWays$Numbers;" ∈ TBw) (hdg : decode cc pc = .ok (.getfield index, 3)) (kk : W p l e R s m args below meth c H locs cells slots Q (F0 m (pc + 3) ls (.ref (ad 9) :: rest))) : W p l e R s m args below meth c H locs cells slots Q (F0 m pc ls (.ref (ad 0) :: rest)) := j_get J hw (j := 0) (ci := 9) rfl fi_X9 rfl 0 (by decide) rfl hlk rfl hdg kk
theorem xg_9_1 (J : Jx p m c cc nL s args own D [(cI, .int), (cZ, .boolean)] A (wsX cI ad)) (hw : jW D A s.heap (wsX cI ad σ) H locs) (hlk : Cond.fieldLink own index "DredgeWays" "ground" "LDredgeWays$Ground;" ∈ TBw) (hdg : decode cc pc = .ok (.getfield index, 3)) (kk : W p l e R s m args below meth c H locs cells slots Q (F0 m (pc + 3) ls (.ref (ad 1) :: rest))) : W p l e R s m args below meth c H locs cells slots Q (F0 m pc ls (.ref (ad 0) :: rest)) := j_get J hw (j := 0) (ci := 9) rfl fi_X9 rfl 1 (by decide) rfl hlk rfl hdg kk
theorem xg_9_2 (J : Jx p m c cc nL s args own D [(cI, .int), (cZ, .boolean)] A (wsX cI ad)) (hw : jW D A s.heap (wsX cI ad σ) H locs) (hlk : Cond.fieldLink own index "DredgeWays" "clouds" "LDredgeWays$Clouds;" ∈ TBw) (hdg : decode cc pc = .ok (.getfield index, 3)) (kk : W p l e R s m args below meth c H locs cells slots Q (F0 m (pc + 3) ls (.ref (ad 2) :: rest))) : W p l e R s m args below meth c H locs cells slots Q (F0 m pc ls (.ref (ad 0) :: rest)) := j_get J hw (j := 0) (ci := 9) rfl fi_X9 rfl 2 (by decide) rfl hlk rfl hdg kk
theorem xg_9_3 (J : Jx p m c cc nL s args own D [(cI, .int), (cZ, .boolean)] A (wsX cI ad)) (hw : jW D A s.heap (wsX cI ad σ) H locs) (hlk : Cond.fieldLink own index "DredgeWays" "tides" "LDredgeWays$Tides;" ∈ TBw) (hdg : decode cc pc = .ok (.getfield index, 3)) (kk : W p l e R s m args below meth c H locs cells slots Q (F0 m (pc + 3) ls (.ref (ad 3) :: rest))) : W p l e R s m args below meth c H locs cells slots Q (F0 m pc ls (.ref (ad 0) :: rest)) := j_get J hw (j := 0) (ci := 9) rfl fi_X9 rfl 3 (by decide) rfl hlk rfl hdg kk
theorem xg_9_4 (J : Jx p m c cc nL s args own D [(cI, .int), (cZ, .boolean)] A (wsX cI ad)) (hw : jW D A s.heap (wsX cI ad σ) H locs) (hlk : Cond.fieldLink own index "DredgeWays" "ship" "LDredgeWays$Ship;" ∈ TBw) (hdg : decode cc pc = .ok (.getfield index, 3)) (kk : W p l e R s m args below meth c H locs cells slots Q (F0 m (pc + 3) ls (.ref (ad 4) :: rest))) : W p l e R s m args below meth c H locs cells slots Q (F0 m pc ls (.ref (ad 0) :: rest)) := j_get J hw (j := 0) (ci := 9) rfl fi_X9 rfl 4 (by decide) rfl hlk rfl hdg kk
theorem xg_9_5 (J : Jx p m c cc nL s args own D [(cI, .int), (cZ, .boolean)] A (wsX cI ad)) (hw : jW D A s.heap (wsX cI ad σ) H locs) (hlk : Cond.fieldLink own index "DredgeWays" "pass" "LDredgeWays$Pass;" ∈ TBw) (hdg : decode cc pc = .ok (.getfield index, 3)) (kk : W p l e R s m args below meth c H locs cells slots Q (F0 m (pc + 3) ls (.ref (ad 5) :: rest))) : W p l e R s m args below meth c H locs cells slots Q (F0 m pc ls (.ref (ad 0) :: rest)) := j_get J hw (j := 0) (ci := 9) rfl fi_X9 rfl 5 (by decide) rfl hlk rfl hdg kk
theorem xg_9_6 (J : Jx p m c cc nL s args own D [(cI, .int), (cZ, .boolean)] A (wsX cI ad)) (hw : jW D A s.heap (wsX cI ad σ) H locs) (hlk : Cond.fieldLink own index "DredgeWays" "spots" "LDredgeWays$Spots;" ∈ TBw) (hdg : decode cc pc = .ok (.getfield index, 3)) (kk : W p l e R s m args below meth c H locs cells slots Q (F0 m (pc + 3) ls (.ref (ad 6) :: rest))) : W p l e R s m args below meth c H locs cells slots Q (F0 m pc ls (.ref (ad 0) :: rest)) := j_get J hw (j := 0) (ci := 9) rfl fi_X9 rfl 6 (by decide) rfl hlk rfl hdg kk
theorem xg_9_7 (J : Jx p m c cc nL s args own D [(cI, .int), (cZ, .boolean)] A (wsX cI ad)) (hw : jW D A s.heap (wsX cI ad σ) H locs) (hlk : Cond.fieldLink own index "DredgeWays" "posts" "LDredgeWays$Posts;" ∈ TBw) (hdg : decode cc pc = .ok (.getfield index, 3)) (kk : W p l e R s m args below meth c H locs cells slots Q (F0 m (pc + 3) ls (.ref (ad 7) :: rest))) : W p l e R s m args below meth c H locs cells slots Q (F0 m pc ls (.ref (ad 0) :: rest)) := j_get J hw (j := 0) (ci := 9) rfl fi_X9 rfl 7 (by decide) rfl hlk rfl hdg kk
theorem xg_9_8 (J : Jx p m c cc nL s args own D [(cI, .int), (cZ, .boolean)] A (wsX cI ad)) (hw : jW D A s.heap (wsX cI ad σ) H locs) (hlk : Cond.fieldLink own index "DredgeWays" "sheets" "LDredgeWays$Sheets;" ∈ TBw) (hdg : decode cc pc = .ok (.getfield index, 3)) (kk : W p l e R s m args below meth c H locs cells slots Q (F0 m (pc + 3) ls (.ref (ad 8) :: rest))) : W p l e R s m args below meth c H locs cells slots Q (F0 m pc ls (.ref (ad 0) :: rest)) := j_get J hw (j := 0) (ci := 9) rfl fi_X9 rfl 8 (by decide) rfl hlk rfl hdg kk
theorem xg_9_9 (J : Jx p m c cc nL s args own D [(cI, .int), (cZ, .boolean)] A (wsX cI ad)) (hw : jW D A s.heap (wsX cI ad σ) H locs) (hlk : Cond.fieldLink own index "DredgeWays" "hour" "I" ∈ TBw) (hdg : decode cc pc = .ok (.getfield index, 3)) (kk : W p l e R s m args below meth c H locs cells slots Q (F0 m (pc + 3) ls (.int (I (σ 18 7)) :: rest))) : W p l e R s m args below meth c H locs cells slots Q (F0 m pc ls (.ref (ad 0) :: rest)) := j_get J hw (j := 0) (ci := 9) rfl fi_X9 rfl 9 (by decide) rfl hlk rfl hdg kk
theorem xs_9_9 {v : Int} (J : Jx p m c cc nL s args own D [(cI, .int), (cZ, .boolean)] A (wsX cI ad)) (hw : jW D A s.heap (wsX cI ad σ) H locs) (hlk : Cond.fieldLink own index "DredgeWays" "hour" "I" ∈ TBw) (hdg : decode cc pc = .ok (.putfield index, 3)) (kk : ∀ (H1 : Heap) (locs1 : List Loc), jW D A s.heap (wsX cI ad (st σ 18 7 v)) H1 locs1 → W p l e R s m args below meth c H1 locs1 cells slots Q (F0 m (pc + 3) ls rest)) : W p l e R s m args below meth c H locs cells slots Q (F0 m pc ls (.int (I v) :: .ref (ad 0) :: rest)) := j_put J hw (j := 0) (ci := 9) rfl fi_X9 tyX9_ok nmX9 rfl 9 (by decide) rfl hlk rfl rfl (Nat.le_of_ble_eq_true rfl) rfl hdg kk
theorem xg_9_10 (J : Jx p m c cc nL s args own D [(cI, .int), (cZ, .boolean)] A (wsX cI ad)) (hw : jW D A s.heap (wsX cI ad σ) H locs) (hlk : Cond.fieldLink own index "DredgeWays" "trips" "I" ∈ TBw) (hdg : decode cc pc = .ok (.getfield index, 3)) (kk : W p l e R s m args below meth c H locs cells slots Q (F0 m (pc + 3) ls (.int (I (σ 18 8)) :: rest))) : W p l e R s m args below meth c H locs cells slots Q (F0 m pc ls (.ref (ad 0) :: rest)) := j_get J hw (j := 0) (ci := 9) rfl fi_X9 rfl 10 (by decide) rfl hlk rfl hdg kk
theorem xs_9_10 {v : Int} (J : Jx p m c cc nL s args own D [(cI, .int), (cZ, .boolean)] A (wsX cI ad)) (hw : jW D A s.heap (wsX cI ad σ) H locs) (hlk : Cond.fieldLink own index "DredgeWays" "trips" "I" ∈ TBw) (hdg : decode cc pc = .ok (.putfield index, 3)) (kk : ∀ (H1 : Heap) (locs1 : List Loc), jW D A s.heap (wsX cI ad (st σ 18 8 v)) H1 locs1 → W p l e R s m args below meth c H1 locs1 cells slots Q (F0 m (pc + 3) ls rest)) : W p l e R s m args below meth c H locs cells slots Q (F0 m pc ls (.int (I v) :: .ref (ad 0) :: rest)) := j_put J hw (j := 0) (ci := 9) rfl fi_X9 tyX9_ok nmX9 rfl 10 (by decide) rfl hlk rfl rfl (Nat.le_of_ble_eq_true rfl) rfl hdg kk
theorem xg_9_11 (J : Jx p m c cc nL s args own D [(cI, .int), (cZ, .boolean)] A (wsX cI ad)) (hw : jW D A s.heap (wsX cI ad σ) H locs) (hlk : Cond.fieldLink own index "DredgeWays" "dug" "I" ∈ TBw) (hdg : decode cc pc = .ok (.getfield index, 3)) (kk : W p l e R s m args below meth c H locs cells slots Q (F0 m (pc + 3) ls (.int (I (σ 18 9)) :: rest))) : W p l e R s m args below meth c H locs cells slots Q (F0 m pc ls (.ref (ad 0) :: rest)) := j_get J hw (j := 0) (ci := 9) rfl fi_X9 rfl 11 (by decide) rfl hlk rfl hdg kk
theorem xs_9_11 {v : Int} (J : Jx p m c cc nL s args own D [(cI, .int), (cZ, .boolean)] A (wsX cI ad)) (hw : jW D A s.heap (wsX cI ad σ) H locs) (hlk : Cond.fieldLink own index "DredgeWays" "dug" "I" ∈ TBw) (hdg : decode cc pc = .ok (.putfield index, 3)) (kk : ∀ (H1 : Heap) (locs1 : List Loc), jW D A s.heap (wsX cI ad (st σ 18 9 v)) H1 locs1 → W p l e R s m args below meth c H1 locs1 cells slots Q (F0 m (pc + 3) ls rest)) : W p l e R s m args below meth c H locs cells slots Q (F0 m pc ls (.int (I v) :: .ref (ad 0) :: rest)) := j_put J hw (j := 0) (ci := 9) rfl fi_X9 tyX9_ok nmX9 rfl 11 (by decide) rfl hlk rfl rfl (Nat.le_of_ble_eq_true rfl) rfl hdg kk
theorem xg_1_0 (J : Jx p m c cc nL s args own D [(cI, .int), (cZ, .boolean)] A (wsX cI ad)) (hw : jW D A s.heap (wsX cI ad σ) H locs) (hlk : Cond.fieldLink own index "DredgeWays$Ground" "depth" "LDredgeWays$Numbers;" ∈ TBw) (hdg : decode cc pc = .ok (.getfield index, 3)) (kk : W p l e R s m args below meth c H locs cells slots Q (F0 m (pc + 3) ls (.ref (ad 11) :: rest))) : W p l e R s m args below meth c H locs cells slots Q (F0 m pc ls (.ref (ad 1) :: rest)) := j_get J hw (j := 1) (ci := 1) rfl fi_X1 rfl 0 (by decide) rfl hlk rfl hdg kk
theorem xg_1_1 (J : Jx p m c cc nL s args own D [(cI, .int), (cZ, .boolean)] A (wsX cI ad)) (hw : jW D A s.heap (wsX cI ad σ) H locs) (hlk : Cond.fieldLink own index "DredgeWays$Ground" "design" "LDredgeWays$Numbers;" ∈ TBw) (hdg : decode cc pc = .ok (.getfield index, 3)) (kk : W p l e R s m args below meth c H locs cells slots Q (F0 m (pc + 3) ls (.ref (ad 13) :: rest))) : W p l e R s m args below meth c H locs cells slots Q (F0 m pc ls (.ref (ad 1) :: rest)) := j_get J hw (j := 1) (ci := 1) rfl fi_X1 rfl 1 (by decide) rfl hlk rfl hdg kk
theorem xg_1_2 (J : Jx p m c cc nL s args own D [(cI, .int), (cZ, .boolean)] A (wsX cI ad)) (hw : jW D A s.heap (wsX cI ad σ) H locs) (hlk : Cond.fieldLink own index "DredgeWays$Ground" "silting" "LDredgeWays$Numbers;" ∈ TBw) (hdg : decode cc pc = .ok (.getfield index, 3)) (kk : W p l e R s m args below meth c H locs cells slots Q (F0 m (pc + 3) ls (.ref (ad 15) :: rest))) : W p l e R s m args below meth c H locs cells slots Q (F0 m pc ls (.ref (ad 1) :: rest)) := j_get J hw (j := 1) (ci := 1) rfl fi_X1 rfl 2 (by decide) rfl hlk rfl hdg kk
theorem xg_1_3 (J : Jx p m c cc nL s args own D [(cI, .int), (cZ, .boolean)] A (wsX cI ad)) (hw : jW D A s.heap (wsX cI ad σ) H locs) (hlk : Cond.fieldLink own index "DredgeWays$Ground" "columns" "I" ∈ TBw) (hdg : decode cc pc = .ok (.getfield index, 3)) (kk : W p l e R s m args below meth c H locs cells slots Q (F0 m (pc + 3) ls (.int (I (σ 18 0)) :: rest))) : W p l e R s m args below meth c H locs cells slots Q (F0 m pc ls (.ref (ad 1) :: rest)) := j_get J hw (j := 1) (ci := 1) rfl fi_X1 rfl 3 (by decide) rfl hlk rfl hdg kk
theorem xs_1_3 {v : Int} (J : Jx p m c cc nL s args own D [(cI, .int), (cZ, .boolean)] A (wsX cI ad)) (hw : jW D A s.heap (wsX cI ad σ) H locs) (hlk : Cond.fieldLink own index "DredgeWays$Ground" "columns" "I" ∈ TBw) (hdg : decode cc pc = .ok (.putfield index, 3)) (kk : ∀ (H1 : Heap) (locs1 : List Loc), jW D A s.heap (wsX cI ad (st σ 18 0 v)) H1 locs1 → W p l e R s m args below meth c H1 locs1 cells slots Q (F0 m (pc + 3) ls rest)) : W p l e R s m args below meth c H locs cells slots Q (F0 m pc ls (.int (I v) :: .ref (ad 1) :: rest)) := j_put J hw (j := 1) (ci := 1) rfl fi_X1 tyX1_ok nmX1 rfl 3 (by decide) rfl hlk rfl rfl (Nat.le_of_ble_eq_true rfl) rfl hdg kk
theorem xg_1_4 (J : Jx p m c cc nL s args own D [(cI, .int), (cZ, .boolean)] A (wsX cI ad)) (hw : jW D A s.heap (wsX cI ad σ) H locs) (hlk : Cond.fieldLink own index "DredgeWays$Ground" "rows" "I" ∈ TBw) (hdg : decode cc pc = .ok (.getfield index, 3)) (kk : W p l e R s m args below meth c H locs cells slots Q (F0 m (pc + 3) ls (.int (I (σ 18 1)) :: rest))) : W p l e R s m args below meth c H locs cells slots Q (F0 m pc ls (.ref (ad 1) :: rest)) := j_get J hw (j := 1) (ci := 1) rfl fi_X1 rfl 4 (by decide) rfl hlk rfl hdg kk
theorem xs_1_4 {v : Int} (J : Jx p m c cc nL s args own D [(cI, .int), (cZ, .boolean)] A (wsX cI ad)) (hw : jW D A s.heap (wsX cI ad σ) H locs) (hlk : Cond.fieldLink own index "DredgeWays$Ground" "rows" "I" ∈ TBw) (hdg : decode cc pc = .ok (.putfield index, 3)) (kk : ∀ (H1 : Heap) (locs1 : List Loc), jW D A s.heap (wsX cI ad (st σ 18 1 v)) H1 locs1 → W p l e R s m args below meth c H1 locs1 cells slots Q (F0 m (pc + 3) ls rest)) : W p l e R s m args below meth c H locs cells slots Q (F0 m pc ls (.int (I v) :: .ref (ad 1) :: rest)) := j_put J hw (j := 1) (ci := 1) rfl fi_X1 tyX1_ok nmX1 rfl 4 (by decide) rfl hlk rfl rfl (Nat.le_of_ble_eq_true rfl) rfl hdg kk
theorem xg_1_5 (J : Jx p m c cc nL s args own D [(cI, .int), (cZ, .boolean)] A (wsX cI ad)) (hw : jW D A s.heap (wsX cI ad σ) H locs) (hlk : Cond.fieldLink own index "DredgeWays$Ground" "silt" "I" ∈ TBw) (hdg : decode cc pc = .ok (.getfield index, 3)) (kk : W p l e R s m args below meth c H locs cells slots Q (F0 m (pc + 3) ls (.int (I (σ 18 2)) :: rest))) : W p l e R s m args below meth c H locs cells slots Q (F0 m pc ls (.ref (ad 1) :: rest)) := j_get J hw (j := 1) (ci := 1) rfl fi_X1 rfl 5 (by decide) rfl hlk rfl hdg kk
theorem xs_1_5 {v : Int} (J : Jx p m c cc nL s args own D [(cI, .int), (cZ, .boolean)] A (wsX cI ad)) (hw : jW D A s.heap (wsX cI ad σ) H locs) (hlk : Cond.fieldLink own index "DredgeWays$Ground" "silt" "I" ∈ TBw) (hdg : decode cc pc = .ok (.putfield index, 3)) (kk : ∀ (H1 : Heap) (locs1 : List Loc), jW D A s.heap (wsX cI ad (st σ 18 2 v)) H1 locs1 → W p l e R s m args below meth c H1 locs1 cells slots Q (F0 m (pc + 3) ls rest)) : W p l e R s m args below meth c H locs cells slots Q (F0 m pc ls (.int (I v) :: .ref (ad 1) :: rest)) := j_put J hw (j := 1) (ci := 1) rfl fi_X1 tyX1_ok nmX1 rfl 5 (by decide) rfl hlk rfl rfl (Nat.le_of_ble_eq_true rfl) rfl hdg kk
theorem xg_0_0 (J : Jx p m c cc nL s args own D [(cI, .int), (cZ, .boolean)] A (wsX cI ad)) (hw : jW D A s.heap (wsX cI ad σ) H locs) (hlk : Cond.fieldLink own index "DredgeWays$Clouds" "afloat" "LDredgeWays$Numbers;" ∈ TBw) (hdg : decode cc pc = .ok (.getfield index, 3)) (kk : W p l e R s m args below meth c H locs cells slots Q (F0 m (pc + 3) ls (.ref (ad 17) :: rest))) : W p l e R s m args below meth c H locs cells slots Q (F0 m pc ls (.ref (ad 2) :: rest)) := j_get J hw (j := 2) (ci := 0) rfl fi_X0 rfl 0 (by decide) rfl hlk rfl hdg kk
theorem xg_0_1 (J : Jx p m c cc nL s args own D [(cI, .int), (cZ, .boolean)] A (wsX cI ad)) (hw : jW D A s.heap (wsX cI ad σ) H locs) (hlk : Cond.fieldLink own index "DredgeWays$Clouds" "loose" "LDredgeWays$Numbers;" ∈ TBw) (hdg : decode cc pc = .ok (.getfield index, 3)) (kk : W p l e R s m args below meth c H locs cells slots Q (F0 m (pc + 3) ls (.ref (ad 19) :: rest))) : W p l e R s m args below meth c H locs cells slots Q (F0 m pc ls (.ref (ad 2) :: rest)) := j_get J hw (j := 2) (ci := 0) rfl fi_X0 rfl 1 (by decide) rfl hlk rfl hdg kk
theorem xg_0_2 (J : Jx p m c cc nL s args own D [(cI, .int), (cZ, .boolean)] A (wsX cI ad)) (hw : jW D A s.heap (wsX cI ad σ) H locs) (hlk : Cond.fieldLink own index "DredgeWays$Clouds" "next" "LDredgeWays$Numbers;" ∈ TBw) (hdg : decode cc pc = .ok (.getfield index, 3)) (kk : W p l e R s m args below meth c H locs cells slots Q (F0 m (pc + 3) ls (.ref (ad 21) :: rest))) : W p l e R s m args below meth c H locs cells slots Q (F0 m pc ls (.ref (ad 2) :: rest)) := j_get J hw (j := 2) (ci := 0) rfl fi_X0 rfl 2 (by decide) rfl hlk rfl hdg kk
theorem xg_0_3 (J : Jx p m c cc nL s args own D [(cI, .int), (cZ, .boolean)] A (wsX cI ad)) (hw : jW D A s.heap (wsX cI ad σ) H locs) (hlk : Cond.fieldLink own index "DredgeWays$Clouds" "came" "I" ∈ TBw) (hdg : decode cc pc = .ok (.getfield index, 3)) (kk : W p l e R s m args below meth c H locs cells slots Q (F0 m (pc + 3) ls (.int (I (σ 18 3)) :: rest))) : W p l e R s m args below meth c H locs cells slots Q (F0 m pc ls (.ref (ad 2) :: rest)) := j_get J hw (j := 2) (ci := 0) rfl fi_X0 rfl 3 (by decide) rfl hlk rfl hdg kk
theorem xs_0_3 {v : Int} (J : Jx p m c cc nL s args own D [(cI, .int), (cZ, .boolean)] A (wsX cI ad)) (hw : jW D A s.heap (wsX cI ad σ) H locs) (hlk : Cond.fieldLink own index "DredgeWays$Clouds" "came" "I" ∈ TBw) (hdg : decode cc pc = .ok (.putfield index, 3)) (kk : ∀ (H1 : Heap) (locs1 : List Loc), jW D A s.heap (wsX cI ad (st σ 18 3 v)) H1 locs1 → W p l e R s m args below meth c H1 locs1 cells slots Q (F0 m (pc + 3) ls rest)) : W p l e R s m args below meth c H locs cells slots Q (F0 m pc ls (.int (I v) :: .ref (ad 2) :: rest)) := j_put J hw (j := 2) (ci := 0) rfl fi_X0 tyX0_ok nmX0 rfl 3 (by decide) rfl hlk rfl rfl (Nat.le_of_ble_eq_true rfl) rfl hdg kk
theorem xg_0_4 (J : Jx p m c cc nL s args own D [(cI, .int), (cZ, .boolean)] A (wsX cI ad)) (hw : jW D A s.heap (wsX cI ad σ) H locs) (hlk : Cond.fieldLink own index "DredgeWays$Clouds" "gone" "I" ∈ TBw) (hdg : decode cc pc = .ok (.getfield index, 3)) (kk : W p l e R s m args below meth c H locs cells slots Q (F0 m (pc + 3) ls (.int (I (σ 18 4)) :: rest))) : W p l e R s m args below meth c H locs cells slots Q (F0 m pc ls (.ref (ad 2) :: rest)) := j_get J hw (j := 2) (ci := 0) rfl fi_X0 rfl 4 (by decide) rfl hlk rfl hdg kk
theorem xs_0_4 {v : Int} (J : Jx p m c cc nL s args own D [(cI, .int), (cZ, .boolean)] A (wsX cI ad)) (hw : jW D A s.heap (wsX cI ad σ) H locs) (hlk : Cond.fieldLink own index "DredgeWays$Clouds" "gone" "I" ∈ TBw) (hdg : decode cc pc = .ok (.putfield index, 3)) (kk : ∀ (H1 : Heap) (locs1 : List Loc), jW D A s.heap (wsX cI ad (st σ 18 4 v)) H1 locs1 → W p l e R s m args below meth c H1 locs1 cells slots Q (F0 m (pc + 3) ls rest)) : W p l e R s m args below meth c H locs cells slots Q (F0 m pc ls (.int (I v) :: .ref (ad 2) :: rest)) := j_put J hw (j := 2) (ci := 0) rfl fi_X0 tyX0_ok nmX0 rfl 4 (by decide) rfl hlk rfl rfl (Nat.le_of_ble_eq_true rfl) rfl hdg kk
theorem xg_0_5 (J : Jx p m c cc nL s args own D [(cI, .int), (cZ, .boolean)] A (wsX cI ad)) (hw : jW D A s.heap (wsX cI ad σ) H locs) (hlk : Cond.fieldLink own index "DredgeWays$Clouds" "settled" "I" ∈ TBw) (hdg : decode cc pc = .ok (.getfield index, 3)) (kk : W p l e R s m args below meth c H locs cells slots Q (F0 m (pc + 3) ls (.int (I (σ 18 5)) :: rest))) : W p l e R s m args below meth c H locs cells slots Q (F0 m pc ls (.ref (ad 2) :: rest)) := j_get J hw (j := 2) (ci := 0) rfl fi_X0 rfl 5 (by decide) rfl hlk rfl hdg kk
theorem xs_0_5 {v : Int} (J : Jx p m c cc nL s args own D [(cI, .int), (cZ, .boolean)] A (wsX cI ad)) (hw : jW D A s.heap (wsX cI ad σ) H locs) (hlk : Cond.fieldLink own index "DredgeWays$Clouds" "settled" "I" ∈ TBw) (hdg : decode cc pc = .ok (.putfield index, 3)) (kk : ∀ (H1 : Heap) (locs1 : List Loc), jW D A s.heap (wsX cI ad (st σ 18 5 v)) H1 locs1 → W p l e R s m args below meth c H1 locs1 cells slots Q (F0 m (pc + 3) ls rest)) : W p l e R s m args below meth c H locs cells slots Q (F0 m pc ls (.int (I v) :: .ref (ad 2) :: rest)) := j_put J hw (j := 2) (ci := 0) rfl fi_X0 tyX0_ok nmX0 rfl 5 (by decide) rfl hlk rfl rfl (Nat.le_of_ble_eq_true rfl) rfl hdg kk
theorem xg_8_0 (J : Jx p m c cc nL s args own D [(cI, .int), (cZ, .boolean)] A (wsX cI ad)) (hw : jW D A s.heap (wsX cI ad σ) H locs) (hlk : Cond.fieldLink own index "DredgeWays$Tides" "heights" "LDredgeWays$Numbers;" ∈ TBw) (hdg : decode cc pc = .ok (.getfield index, 3)) (kk : W p l e R s m args below meth c H locs cells slots Q (F0 m (pc + 3) ls (.ref (ad 23) :: rest))) : W p l e R s m args below meth c H locs cells slots Q (F0 m pc ls (.ref (ad 3) :: rest)) := j_get J hw (j := 3) (ci := 8) rfl fi_X8 rfl 0 (by decide) rfl hlk rfl hdg kk
theorem xg_6_0 (J : Jx p m c cc nL s args own D [(cI, .int), (cZ, .boolean)] A (wsX cI ad)) (hw : jW D A s.heap (wsX cI ad σ) H locs) (hlk : Cond.fieldLink own index "DredgeWays$Ship" "table" "LDredgeWays$Numbers;" ∈ TBw) (hdg : decode cc pc = .ok (.getfield index, 3)) (kk : W p l e R s m args below meth c H locs cells slots Q (F0 m (pc + 3) ls (.ref (ad 25) :: rest))) : W p l e R s m args below meth c H locs cells slots Q (F0 m pc ls (.ref (ad 4) :: rest)) := j_get J hw (j := 4) (ci := 6) rfl fi_X6 rfl 0 (by decide) rfl hlk rfl hdg kk
theorem xg_3_0 (J : Jx p m c cc nL s args own D [(cI, .int), (cZ, .boolean)] A (wsX cI ad)) (hw : jW D A s.heap (wsX cI ad σ) H locs) (hlk : Cond.fieldLink own index "DredgeWays$Pass" "planned" "LDredgeWays$Numbers;" ∈ TBw) (hdg : decode cc pc = .ok (.getfield index, 3)) (kk : W p l e R s m args below meth c H locs cells slots Q (F0 m (pc + 3) ls (.ref (ad 27) :: rest))) : W p l e R s m args below meth c H locs cells slots Q (F0 m pc ls (.ref (ad 5) :: rest)) := j_get J hw (j := 5) (ci := 3) rfl fi_X3 rfl 0 (by decide) rfl hlk rfl hdg kk
theorem xg_3_1 (J : Jx p m c cc nL s args own D [(cI, .int), (cZ, .boolean)] A (wsX cI ad)) (hw : jW D A s.heap (wsX cI ad σ) H locs) (hlk : Cond.fieldLink own index "DredgeWays$Pass" "row" "I" ∈ TBw) (hdg : decode cc pc = .ok (.getfield index, 3)) (kk : W p l e R s m args below meth c H locs cells slots Q (F0 m (pc + 3) ls (.int (I (σ 18 10)) :: rest))) : W p l e R s m args below meth c H locs cells slots Q (F0 m pc ls (.ref (ad 5) :: rest)) := j_get J hw (j := 5) (ci := 3) rfl fi_X3 rfl 1 (by decide) rfl hlk rfl hdg kk
theorem xs_3_1 {v : Int} (J : Jx p m c cc nL s args own D [(cI, .int), (cZ, .boolean)] A (wsX cI ad)) (hw : jW D A s.heap (wsX cI ad σ) H locs) (hlk : Cond.fieldLink own index "DredgeWays$Pass" "row" "I" ∈ TBw) (hdg : decode cc pc = .ok (.putfield index, 3)) (kk : ∀ (H1 : Heap) (locs1 : List Loc), jW D A s.heap (wsX cI ad (st σ 18 10 v)) H1 locs1 → W p l e R s m args below meth c H1 locs1 cells slots Q (F0 m (pc + 3) ls rest)) : W p l e R s m args below meth c H locs cells slots Q (F0 m pc ls (.int (I v) :: .ref (ad 5) :: rest)) := j_put J hw (j := 5) (ci := 3) rfl fi_X3 tyX3_ok nmX3 rfl 1 (by decide) rfl hlk rfl rfl (Nat.le_of_ble_eq_true rfl) rfl hdg kk
theorem xg_3_2 (J : Jx p m c cc nL s args own D [(cI, .int), (cZ, .boolean)] A (wsX cI ad)) (hw : jW D A s.heap (wsX cI ad σ) H locs) (hlk : Cond.fieldLink own index "DredgeWays$Pass" "load" "I" ∈ TBw) (hdg : decode cc pc = .ok (.getfield index, 3)) (kk : W p l e R s m args below meth c H locs cells slots Q (F0 m (pc + 3) ls (.int (I (σ 18 11)) :: rest))) : W p l e R s m args below meth c H locs cells slots Q (F0 m pc ls (.ref (ad 5) :: rest)) := j_get J hw (j := 5) (ci := 3) rfl fi_X3 rfl 2 (by decide) rfl hlk rfl hdg kk
theorem xs_3_2 {v : Int} (J : Jx p m c cc nL s args own D [(cI, .int), (cZ, .boolean)] A (wsX cI ad)) (hw : jW D A s.heap (wsX cI ad σ) H locs) (hlk : Cond.fieldLink own index "DredgeWays$Pass" "load" "I" ∈ TBw) (hdg : decode cc pc = .ok (.putfield index, 3)) (kk : ∀ (H1 : Heap) (locs1 : List Loc), jW D A s.heap (wsX cI ad (st σ 18 11 v)) H1 locs1 → W p l e R s m args below meth c H1 locs1 cells slots Q (F0 m (pc + 3) ls rest)) : W p l e R s m args below meth c H locs cells slots Q (F0 m pc ls (.int (I v) :: .ref (ad 5) :: rest)) := j_put J hw (j := 5) (ci := 3) rfl fi_X3 tyX3_ok nmX3 rfl 2 (by decide) rfl hlk rfl rfl (Nat.le_of_ble_eq_true rfl) rfl hdg kk
theorem xg_3_3 (J : Jx p m c cc nL s args own D [(cI, .int), (cZ, .boolean)] A (wsX cI ad)) (hw : jW D A s.heap (wsX cI ad σ) H locs) (hlk : Cond.fieldLink own index "DredgeWays$Pass" "last" "I" ∈ TBw) (hdg : decode cc pc = .ok (.getfield index, 3)) (kk : W p l e R s m args below meth c H locs cells slots Q (F0 m (pc + 3) ls (.int (I (σ 18 12)) :: rest))) : W p l e R s m args below meth c H locs cells slots Q (F0 m pc ls (.ref (ad 5) :: rest)) := j_get J hw (j := 5) (ci := 3) rfl fi_X3 rfl 3 (by decide) rfl hlk rfl hdg kk
theorem xs_3_3 {v : Int} (J : Jx p m c cc nL s args own D [(cI, .int), (cZ, .boolean)] A (wsX cI ad)) (hw : jW D A s.heap (wsX cI ad σ) H locs) (hlk : Cond.fieldLink own index "DredgeWays$Pass" "last" "I" ∈ TBw) (hdg : decode cc pc = .ok (.putfield index, 3)) (kk : ∀ (H1 : Heap) (locs1 : List Loc), jW D A s.heap (wsX cI ad (st σ 18 12 v)) H1 locs1 → W p l e R s m args below meth c H1 locs1 cells slots Q (F0 m (pc + 3) ls rest)) : W p l e R s m args below meth c H locs cells slots Q (F0 m pc ls (.int (I v) :: .ref (ad 5) :: rest)) := j_put J hw (j := 5) (ci := 3) rfl fi_X3 tyX3_ok nmX3 rfl 3 (by decide) rfl hlk rfl rfl (Nat.le_of_ble_eq_true rfl) rfl hdg kk
theorem xg_7_0 (J : Jx p m c cc nL s args own D [(cI, .int), (cZ, .boolean)] A (wsX cI ad)) (hw : jW D A s.heap (wsX cI ad σ) H locs) (hlk : Cond.fieldLink own index "DredgeWays$Spots" "held" "LDredgeWays$Numbers;" ∈ TBw) (hdg : decode cc pc = .ok (.getfield index, 3)) (kk : W p l e R s m args below meth c H locs cells slots Q (F0 m (pc + 3) ls (.ref (ad 29) :: rest))) : W p l e R s m args below meth c H locs cells slots Q (F0 m pc ls (.ref (ad 6) :: rest)) := j_get J hw (j := 6) (ci := 7) rfl fi_X7 rfl 0 (by decide) rfl hlk rfl hdg kk
theorem xg_7_1 (J : Jx p m c cc nL s args own D [(cI, .int), (cZ, .boolean)] A (wsX cI ad)) (hw : jW D A s.heap (wsX cI ad σ) H locs) (hlk : Cond.fieldLink own index "DredgeWays$Spots" "most" "LDredgeWays$Numbers;" ∈ TBw) (hdg : decode cc pc = .ok (.getfield index, 3)) (kk : W p l e R s m args below meth c H locs cells slots Q (F0 m (pc + 3) ls (.ref (ad 31) :: rest))) : W p l e R s m args below meth c H locs cells slots Q (F0 m pc ls (.ref (ad 6) :: rest)) := j_get J hw (j := 6) (ci := 7) rfl fi_X7 rfl 1 (by decide) rfl hlk rfl hdg kk
theorem xg_7_2 (J : Jx p m c cc nL s args own D [(cI, .int), (cZ, .boolean)] A (wsX cI ad)) (hw : jW D A s.heap (wsX cI ad σ) H locs) (hlk : Cond.fieldLink own index "DredgeWays$Spots" "away" "LDredgeWays$Numbers;" ∈ TBw) (hdg : decode cc pc = .ok (.getfield index, 3)) (kk : W p l e R s m args below meth c H locs cells slots Q (F0 m (pc + 3) ls (.ref (ad 33) :: rest))) : W p l e R s m args below meth c H locs cells slots Q (F0 m pc ls (.ref (ad 6) :: rest)) := j_get J hw (j := 6) (ci := 7) rfl fi_X7 rfl 2 (by decide) rfl hlk rfl hdg kk
theorem xg_4_0 (J : Jx p m c cc nL s args own D [(cI, .int), (cZ, .boolean)] A (wsX cI ad)) (hw : jW D A s.heap (wsX cI ad σ) H locs) (hlk : Cond.fieldLink own index "DredgeWays$Posts" "places" "LDredgeWays$Numbers;" ∈ TBw) (hdg : decode cc pc = .ok (.getfield index, 3)) (kk : W p l e R s m args below meth c H locs cells slots Q (F0 m (pc + 3) ls (.ref (ad 35) :: rest))) : W p l e R s m args below meth c H locs cells slots Q (F0 m pc ls (.ref (ad 7) :: rest)) := j_get J hw (j := 7) (ci := 4) rfl fi_X4 rfl 0 (by decide) rfl hlk rfl hdg kk
theorem xg_4_1 (J : Jx p m c cc nL s args own D [(cI, .int), (cZ, .boolean)] A (wsX cI ad)) (hw : jW D A s.heap (wsX cI ad σ) H locs) (hlk : Cond.fieldLink own index "DredgeWays$Posts" "limits" "LDredgeWays$Numbers;" ∈ TBw) (hdg : decode cc pc = .ok (.getfield index, 3)) (kk : W p l e R s m args below meth c H locs cells slots Q (F0 m (pc + 3) ls (.ref (ad 37) :: rest))) : W p l e R s m args below meth c H locs cells slots Q (F0 m pc ls (.ref (ad 7) :: rest)) := j_get J hw (j := 7) (ci := 4) rfl fi_X4 rfl 1 (by decide) rfl hlk rfl hdg kk
theorem xg_4_2 (J : Jx p m c cc nL s args own D [(cI, .int), (cZ, .boolean)] A (wsX cI ad)) (hw : jW D A s.heap (wsX cI ad σ) H locs) (hlk : Cond.fieldLink own index "DredgeWays$Posts" "brokenHours" "LDredgeWays$Numbers;" ∈ TBw) (hdg : decode cc pc = .ok (.getfield index, 3)) (kk : W p l e R s m args below meth c H locs cells slots Q (F0 m (pc + 3) ls (.ref (ad 39) :: rest))) : W p l e R s m args below meth c H locs cells slots Q (F0 m pc ls (.ref (ad 7) :: rest)) := j_get J hw (j := 7) (ci := 4) rfl fi_X4 rfl 2 (by decide) rfl hlk rfl hdg kk
theorem xg_4_3 (J : Jx p m c cc nL s args own D [(cI, .int), (cZ, .boolean)] A (wsX cI ad)) (hw : jW D A s.heap (wsX cI ad σ) H locs) (hlk : Cond.fieldLink own index "DredgeWays$Posts" "size" "I" ∈ TBw) (hdg : decode cc pc = .ok (.getfield index, 3)) (kk : W p l e R s m args below meth c H locs cells slots Q (F0 m (pc + 3) ls (.int (I (σ 18 6)) :: rest))) : W p l e R s m args below meth c H locs cells slots Q (F0 m pc ls (.ref (ad 7) :: rest)) := j_get J hw (j := 7) (ci := 4) rfl fi_X4 rfl 3 (by decide) rfl hlk rfl hdg kk
theorem xs_4_3 {v : Int} (J : Jx p m c cc nL s args own D [(cI, .int), (cZ, .boolean)] A (wsX cI ad)) (hw : jW D A s.heap (wsX cI ad σ) H locs) (hlk : Cond.fieldLink own index "DredgeWays$Posts" "size" "I" ∈ TBw) (hdg : decode cc pc = .ok (.putfield index, 3)) (kk : ∀ (H1 : Heap) (locs1 : List Loc), jW D A s.heap (wsX cI ad (st σ 18 6 v)) H1 locs1 → W p l e R s m args below meth c H1 locs1 cells slots Q (F0 m (pc + 3) ls rest)) : W p l e R s m args below meth c H locs cells slots Q (F0 m pc ls (.int (I v) :: .ref (ad 7) :: rest)) := j_put J hw (j := 7) (ci := 4) rfl fi_X4 tyX4_ok nmX4 rfl 3 (by decide) rfl hlk rfl rfl (Nat.le_of_ble_eq_true rfl) rfl hdg kk
theorem xg_5_0 (J : Jx p m c cc nL s args own D [(cI, .int), (cZ, .boolean)] A (wsX cI ad)) (hw : jW D A s.heap (wsX cI ad σ) H locs) (hlk : Cond.fieldLink own index "DredgeWays$Sheets" "depths" "LDredgeWays$Numbers;" ∈ TBw) (hdg : decode cc pc = .ok (.getfield index, 3)) (kk : W p l e R s m args below meth c H locs cells slots Q (F0 m (pc + 3) ls (.ref (ad 41) :: rest))) : W p l e R s m args below meth c H locs cells slots Q (F0 m pc ls (.ref (ad 8) :: rest)) := j_get J hw (j := 8) (ci := 5) rfl fi_X5 rfl 0 (by decide) rfl hlk rfl hdg kk
theorem xg_5_1 (J : Jx p m c cc nL s args own D [(cI, .int), (cZ, .boolean)] A (wsX cI ad)) (hw : jW D A s.heap (wsX cI ad σ) H locs) (hlk : Cond.fieldLink own index "DredgeWays$Sheets" "taken" "LDredgeWays$Numbers;" ∈ TBw) (hdg : decode cc pc = .ok (.getfield index, 3)) (kk : W p l e R s m args below meth c H locs cells slots Q (F0 m (pc + 3) ls (.ref (ad 43) :: rest))) : W p l e R s m args below meth c H locs cells slots Q (F0 m pc ls (.ref (ad 8) :: rest)) := j_get J hw (j := 8) (ci := 5) rfl fi_X5 rfl 1 (by decide) rfl hlk rfl hdg kk
theorem xg_num {k : Nat} (hk : k < 18) (J : Jx p m c cc nL s args own D [(cI, .int), (cZ, .boolean)] A (wsX cI ad)) (hw : jW D A s.heap (wsX cI ad σ) H locs) (hlk : Cond.fieldLink own index "DredgeWays$Numbers" "items" "[I" ∈ TBw) (hdg : decode cc pc = .ok (.getfield index, 3)) (kk : W p l e R s m args below meth c H locs cells slots Q (F0 m (pc + 3) ls (.ref (ad (10 + 2 * k)) :: rest))) : W p l e R s m args below meth c H locs cells slots Q (F0 m pc ls (.ref (ad (9 + 2 * k)) :: rest)) := j_get J hw (ci := 2) (wsX_num hk) fi_X2 rfl 0 (by decide) rfl hlk rfl hdg kk
theorem xa_ld {k : Nat} (hk : k < 18) (J : Jx p m c cc nL s args own D [(cI, .int), (cZ, .boolean)] A (wsX cI ad)) (hw : jW D A s.heap (wsX cI ad σ) H locs) {i : Int} (hi : 0 ≤ i ∧ i < lenX k) (hdg : decode cc pc = .ok (.iaload, 1)) (kk : W p l e R s m args below meth c H locs cells slots Q (F0 m (pc + 1) ls (.int (I (σ k i)) :: rest))) : W p l e R s m args below meth c H locs cells slots Q (F0 m pc ls (.int (I i) :: .ref (ad (10 + 2 * k)) :: rest)) := j_iald J hw (wsX_arr hk) (t0 := 0) rfl (lenX_lt hk) hi hdg kk
theorem xa_st {k : Nat} (hk : k < 18) (J : Jx p m c cc nL s args own D [(cI, .int), (cZ, .boolean)] A (wsX cI ad)) (hw : jW D A s.heap (wsX cI ad σ) H locs) {i v : Int} (hi : 0 ≤ i ∧ i < lenX k) (hdg : decode cc pc = .ok (.iastore, 1)) (kk : ∀ (H1 : Heap) (locs1 : List Loc), jW D A s.heap (wsX cI ad (st σ k i v)) H1 locs1 → W p l e R s m args below meth c H1 locs1 cells slots Q (F0 m (pc + 1) ls rest)) : W p l e R s m args below meth c H locs cells slots Q (F0 m pc ls (.int (I v) :: .int (I i) :: .ref (ad (10 + 2 * k)) :: rest)) := j_iast J hw (wsX_arr hk) (t0 := 0) rfl (lenX_lt hk) hi (wsX_set hk) hdg kk
theorem xa_len {k : Nat} (hk : k < 18) (J : Jx p m c cc nL s args own D [(cI, .int), (cZ, .boolean)] A (wsX cI ad)) (hw : jW D A s.heap (wsX cI ad σ) H locs) (hdg : decode cc pc = .ok (.arraylength, 1)) (kk : W p l e R s m args below meth c H locs cells slots Q (F0 m (pc + 1) ls (.int (I (lenX k)) :: rest))) : W p l e R s m args below meth c H locs cells slots Q (F0 m pc ls (.ref (ad (10 + 2 * k)) :: rest)) := j_alen J hw (wsX_arr hk) (t0 := 0) rfl hdg kk
theorem mg_10_0 (J : Jx p m c cc nL s args own D [(cI, .int), (cZ, .boolean)] A (wsM cI cZ ad)) (hw : jW D A s.heap (wsM cI cZ ad σ) H locs) (hlk : Cond.fieldLink own index "DredgeWaysModel" "columns" "I" ∈ TBw) (hdg : decode cc pc = .ok (.getfield index, 3)) (kk : W p l e R s m args below meth c H locs cells slots Q (F0 m (pc + 3) ls (.int (I (σ 18 0)) :: rest))) : W p l e R s m args below meth c H locs cells slots Q (F0 m pc ls (.ref (ad 0) :: rest)) := j_get J hw (j := 0) (ci := 10) rfl fi_X10 rfl 0 (by decide) rfl hlk rfl hdg kk
theorem ms_10_0 {v : Int} (J : Jx p m c cc nL s args own D [(cI, .int), (cZ, .boolean)] A (wsM cI cZ ad)) (hw : jW D A s.heap (wsM cI cZ ad σ) H locs) (hlk : Cond.fieldLink own index "DredgeWaysModel" "columns" "I" ∈ TBw) (hdg : decode cc pc = .ok (.putfield index, 3)) (kk : ∀ (H1 : Heap) (locs1 : List Loc), jW D A s.heap (wsM cI cZ ad (st σ 18 0 v)) H1 locs1 → W p l e R s m args below meth c H1 locs1 cells slots Q (F0 m (pc + 3) ls rest)) : W p l e R s m args below meth c H locs cells slots Q (F0 m pc ls (.int (I v) :: .ref (ad 0) :: rest)) := j_put J hw (j := 0) (ci := 10) rfl fi_X10 tyX10_ok nmX10 rfl 0 (by decide) rfl hlk rfl rfl (Nat.le_of_ble_eq_true rfl) rfl hdg kk
theorem mg_10_1 (J : Jx p m c cc nL s args own D [(cI, .int), (cZ, .boolean)] A (wsM cI cZ ad)) (hw : jW D A s.heap (wsM cI cZ ad σ) H locs) (hlk : Cond.fieldLink own index "DredgeWaysModel" "rows" "I" ∈ TBw) (hdg : decode cc pc = .ok (.getfield index, 3)) (kk : W p l e R s m args below meth c H locs cells slots Q (F0 m (pc + 3) ls (.int (I (σ 18 1)) :: rest))) : W p l e R s m args below meth c H locs cells slots Q (F0 m pc ls (.ref (ad 0) :: rest)) := j_get J hw (j := 0) (ci := 10) rfl fi_X10 rfl 1 (by decide) rfl hlk rfl hdg kk
theorem ms_10_1 {v : Int} (J : Jx p m c cc nL s args own D [(cI, .int), (cZ, .boolean)] A (wsM cI cZ ad)) (hw : jW D A s.heap (wsM cI cZ ad σ) H locs) (hlk : Cond.fieldLink own index "DredgeWaysModel" "rows" "I" ∈ TBw) (hdg : decode cc pc = .ok (.putfield index, 3)) (kk : ∀ (H1 : Heap) (locs1 : List Loc), jW D A s.heap (wsM cI cZ ad (st σ 18 1 v)) H1 locs1 → W p l e R s m args below meth c H1 locs1 cells slots Q (F0 m (pc + 3) ls rest)) : W p l e R s m args below meth c H locs cells slots Q (F0 m pc ls (.int (I v) :: .ref (ad 0) :: rest)) := j_put J hw (j := 0) (ci := 10) rfl fi_X10 tyX10_ok nmX10 rfl 1 (by decide) rfl hlk rfl rfl (Nat.le_of_ble_eq_true rfl) rfl hdg kk
theorem mg_10_2 (J : Jx p m c cc nL s args own D [(cI, .int), (cZ, .boolean)] A (wsM cI cZ ad)) (hw : jW D A s.heap (wsM cI cZ ad σ) H locs) (hlk : Cond.fieldLink own index "DredgeWaysModel" "depth" "[I" ∈ TBw) (hdg : decode cc pc = .ok (.getfield index, 3)) (kk : W p l e R s m args below meth c H locs cells slots Q (F0 m (pc + 3) ls (.ref (ad 2) :: rest))) : W p l e R s m args below meth c H locs cells slots Q (F0 m pc ls (.ref (ad 0) :: rest)) := j_get J hw (j := 0) (ci := 10) rfl fi_X10 rfl 2 (by decide) rfl hlk rfl hdg kk
theorem mg_10_3 (J : Jx p m c cc nL s args own D [(cI, .int), (cZ, .boolean)] A (wsM cI cZ ad)) (hw : jW D A s.heap (wsM cI cZ ad σ) H locs) (hlk : Cond.fieldLink own index "DredgeWaysModel" "design" "[I" ∈ TBw) (hdg : decode cc pc = .ok (.getfield index, 3)) (kk : W p l e R s m args below meth c H locs cells slots Q (F0 m (pc + 3) ls (.ref (ad 3) :: rest))) : W p l e R s m args below meth c H locs cells slots Q (F0 m pc ls (.ref (ad 0) :: rest)) := j_get J hw (j := 0) (ci := 10) rfl fi_X10 rfl 3 (by decide) rfl hlk rfl hdg kk
theorem mg_10_4 (J : Jx p m c cc nL s args own D [(cI, .int), (cZ, .boolean)] A (wsM cI cZ ad)) (hw : jW D A s.heap (wsM cI cZ ad σ) H locs) (hlk : Cond.fieldLink own index "DredgeWaysModel" "cloud" "[I" ∈ TBw) (hdg : decode cc pc = .ok (.getfield index, 3)) (kk : W p l e R s m args below meth c H locs cells slots Q (F0 m (pc + 3) ls (.ref (ad 5) :: rest))) : W p l e R s m args below meth c H locs cells slots Q (F0 m pc ls (.ref (ad 0) :: rest)) := j_get J hw (j := 0) (ci := 10) rfl fi_X10 rfl 4 (by decide) rfl hlk rfl hdg kk
theorem mg_10_5 (J : Jx p m c cc nL s args own D [(cI, .int), (cZ, .boolean)] A (wsM cI cZ ad)) (hw : jW D A s.heap (wsM cI cZ ad σ) H locs) (hlk : Cond.fieldLink own index "DredgeWaysModel" "settled" "[I" ∈ TBw) (hdg : decode cc pc = .ok (.getfield index, 3)) (kk : W p l e R s m args below meth c H locs cells slots Q (F0 m (pc + 3) ls (.ref (ad 6) :: rest))) : W p l e R s m args below meth c H locs cells slots Q (F0 m pc ls (.ref (ad 0) :: rest)) := j_get J hw (j := 0) (ci := 10) rfl fi_X10 rfl 5 (by decide) rfl hlk rfl hdg kk
theorem mg_10_6 (J : Jx p m c cc nL s args own D [(cI, .int), (cZ, .boolean)] A (wsM cI cZ ad)) (hw : jW D A s.heap (wsM cI cZ ad σ) H locs) (hlk : Cond.fieldLink own index "DredgeWaysModel" "spare" "[I" ∈ TBw) (hdg : decode cc pc = .ok (.getfield index, 3)) (kk : W p l e R s m args below meth c H locs cells slots Q (F0 m (pc + 3) ls (.ref (ad 4) :: rest))) : W p l e R s m args below meth c H locs cells slots Q (F0 m pc ls (.ref (ad 0) :: rest)) := j_get J hw (j := 0) (ci := 10) rfl fi_X10 rfl 6 (by decide) rfl hlk rfl hdg kk
theorem mg_10_7 (J : Jx p m c cc nL s args own D [(cI, .int), (cZ, .boolean)] A (wsM cI cZ ad)) (hw : jW D A s.heap (wsM cI cZ ad σ) H locs) (hlk : Cond.fieldLink own index "DredgeWaysModel" "rules" "[I" ∈ TBw) (hdg : decode cc pc = .ok (.getfield index, 3)) (kk : W p l e R s m args below meth c H locs cells slots Q (F0 m (pc + 3) ls (.ref (ad 1) :: rest))) : W p l e R s m args below meth c H locs cells slots Q (F0 m pc ls (.ref (ad 0) :: rest)) := j_get J hw (j := 0) (ci := 10) rfl fi_X10 rfl 7 (by decide) rfl hlk rfl hdg kk
theorem mg_10_8 (J : Jx p m c cc nL s args own D [(cI, .int), (cZ, .boolean)] A (wsM cI cZ ad)) (hw : jW D A s.heap (wsM cI cZ ad σ) H locs) (hlk : Cond.fieldLink own index "DredgeWaysModel" "tide" "[I" ∈ TBw) (hdg : decode cc pc = .ok (.getfield index, 3)) (kk : W p l e R s m args below meth c H locs cells slots Q (F0 m (pc + 3) ls (.ref (ad 8) :: rest))) : W p l e R s m args below meth c H locs cells slots Q (F0 m pc ls (.ref (ad 0) :: rest)) := j_get J hw (j := 0) (ci := 10) rfl fi_X10 rfl 8 (by decide) rfl hlk rfl hdg kk
theorem mg_10_9 (J : Jx p m c cc nL s args own D [(cI, .int), (cZ, .boolean)] A (wsM cI cZ ad)) (hw : jW D A s.heap (wsM cI cZ ad σ) H locs) (hlk : Cond.fieldLink own index "DredgeWaysModel" "most" "[I" ∈ TBw) (hdg : decode cc pc = .ok (.getfield index, 3)) (kk : W p l e R s m args below meth c H locs cells slots Q (F0 m (pc + 3) ls (.ref (ad 12) :: rest))) : W p l e R s m args below meth c H locs cells slots Q (F0 m pc ls (.ref (ad 0) :: rest)) := j_get J hw (j := 0) (ci := 10) rfl fi_X10 rfl 9 (by decide) rfl hlk rfl hdg kk
theorem mg_10_10 (J : Jx p m c cc nL s args own D [(cI, .int), (cZ, .boolean)] A (wsM cI cZ ad)) (hw : jW D A s.heap (wsM cI cZ ad σ) H locs) (hlk : Cond.fieldLink own index "DredgeWaysModel" "away" "[I" ∈ TBw) (hdg : decode cc pc = .ok (.getfield index, 3)) (kk : W p l e R s m args below meth c H locs cells slots Q (F0 m (pc + 3) ls (.ref (ad 13) :: rest))) : W p l e R s m args below meth c H locs cells slots Q (F0 m pc ls (.ref (ad 0) :: rest)) := j_get J hw (j := 0) (ci := 10) rfl fi_X10 rfl 10 (by decide) rfl hlk rfl hdg kk
theorem mg_10_11 (J : Jx p m c cc nL s args own D [(cI, .int), (cZ, .boolean)] A (wsM cI cZ ad)) (hw : jW D A s.heap (wsM cI cZ ad σ) H locs) (hlk : Cond.fieldLink own index "DredgeWaysModel" "held" "[I" ∈ TBw) (hdg : decode cc pc = .ok (.getfield index, 3)) (kk : W p l e R s m args below meth c H locs cells slots Q (F0 m (pc + 3) ls (.ref (ad 11) :: rest))) : W p l e R s m args below meth c H locs cells slots Q (F0 m pc ls (.ref (ad 0) :: rest)) := j_get J hw (j := 0) (ci := 10) rfl fi_X10 rfl 11 (by decide) rfl hlk rfl hdg kk
theorem mg_10_12 (J : Jx p m c cc nL s args own D [(cI, .int), (cZ, .boolean)] A (wsM cI cZ ad)) (hw : jW D A s.heap (wsM cI cZ ad σ) H locs) (hlk : Cond.fieldLink own index "DredgeWaysModel" "table" "[I" ∈ TBw) (hdg : decode cc pc = .ok (.getfield index, 3)) (kk : W p l e R s m args below meth c H locs cells slots Q (F0 m (pc + 3) ls (.ref (ad 9) :: rest))) : W p l e R s m args below meth c H locs cells slots Q (F0 m pc ls (.ref (ad 0) :: rest)) := j_get J hw (j := 0) (ci := 10) rfl fi_X10 rfl 12 (by decide) rfl hlk rfl hdg kk
theorem mg_10_13 (J : Jx p m c cc nL s args own D [(cI, .int), (cZ, .boolean)] A (wsM cI cZ ad)) (hw : jW D A s.heap (wsM cI cZ ad σ) H locs) (hlk : Cond.fieldLink own index "DredgeWaysModel" "posts" "I" ∈ TBw) (hdg : decode cc pc = .ok (.getfield index, 3)) (kk : W p l e R s m args below meth c H locs cells slots Q (F0 m (pc + 3) ls (.int (I (σ 18 6)) :: rest))) : W p l e R s m args below meth c H locs cells slots Q (F0 m pc ls (.ref (ad 0) :: rest)) := j_get J hw (j := 0) (ci := 10) rfl fi_X10 rfl 13 (by decide) rfl hlk rfl hdg kk
theorem ms_10_13 {v : Int} (J : Jx p m c cc nL s args own D [(cI, .int), (cZ, .boolean)] A (wsM cI cZ ad)) (hw : jW D A s.heap (wsM cI cZ ad σ) H locs) (hlk : Cond.fieldLink own index "DredgeWaysModel" "posts" "I" ∈ TBw) (hdg : decode cc pc = .ok (.putfield index, 3)) (kk : ∀ (H1 : Heap) (locs1 : List Loc), jW D A s.heap (wsM cI cZ ad (st σ 18 6 v)) H1 locs1 → W p l e R s m args below meth c H1 locs1 cells slots Q (F0 m (pc + 3) ls rest)) : W p l e R s m args below meth c H locs cells slots Q (F0 m pc ls (.int (I v) :: .ref (ad 0) :: rest)) := j_put J hw (j := 0) (ci := 10) rfl fi_X10 tyX10_ok nmX10 rfl 13 (by decide) rfl hlk rfl rfl (Nat.le_of_ble_eq_true rfl) rfl hdg kk
theorem mg_10_14 (J : Jx p m c cc nL s args own D [(cI, .int), (cZ, .boolean)] A (wsM cI cZ ad)) (hw : jW D A s.heap (wsM cI cZ ad σ) H locs) (hlk : Cond.fieldLink own index "DredgeWaysModel" "postCell" "[I" ∈ TBw) (hdg : decode cc pc = .ok (.getfield index, 3)) (kk : W p l e R s m args below meth c H locs cells slots Q (F0 m (pc + 3) ls (.ref (ad 14) :: rest))) : W p l e R s m args below meth c H locs cells slots Q (F0 m pc ls (.ref (ad 0) :: rest)) := j_get J hw (j := 0) (ci := 10) rfl fi_X10 rfl 14 (by decide) rfl hlk rfl hdg kk
theorem mg_10_15 (J : Jx p m c cc nL s args own D [(cI, .int), (cZ, .boolean)] A (wsM cI cZ ad)) (hw : jW D A s.heap (wsM cI cZ ad σ) H locs) (hlk : Cond.fieldLink own index "DredgeWaysModel" "postLimit" "[I" ∈ TBw) (hdg : decode cc pc = .ok (.getfield index, 3)) (kk : W p l e R s m args below meth c H locs cells slots Q (F0 m (pc + 3) ls (.ref (ad 15) :: rest))) : W p l e R s m args below meth c H locs cells slots Q (F0 m pc ls (.ref (ad 0) :: rest)) := j_get J hw (j := 0) (ci := 10) rfl fi_X10 rfl 15 (by decide) rfl hlk rfl hdg kk
theorem mg_10_16 (J : Jx p m c cc nL s args own D [(cI, .int), (cZ, .boolean)] A (wsM cI cZ ad)) (hw : jW D A s.heap (wsM cI cZ ad σ) H locs) (hlk : Cond.fieldLink own index "DredgeWaysModel" "postBroken" "[I" ∈ TBw) (hdg : decode cc pc = .ok (.getfield index, 3)) (kk : W p l e R s m args below meth c H locs cells slots Q (F0 m (pc + 3) ls (.ref (ad 16) :: rest))) : W p l e R s m args below meth c H locs cells slots Q (F0 m pc ls (.ref (ad 0) :: rest)) := j_get J hw (j := 0) (ci := 10) rfl fi_X10 rfl 16 (by decide) rfl hlk rfl hdg kk
theorem mg_10_17 (J : Jx p m c cc nL s args own D [(cI, .int), (cZ, .boolean)] A (wsM cI cZ ad)) (hw : jW D A s.heap (wsM cI cZ ad σ) H locs) (hlk : Cond.fieldLink own index "DredgeWaysModel" "isSheet" "[Z" ∈ TBw) (hdg : decode cc pc = .ok (.getfield index, 3)) (kk : W p l e R s m args below meth c H locs cells slots Q (F0 m (pc + 3) ls (.ref (ad 18) :: rest))) : W p l e R s m args below meth c H locs cells slots Q (F0 m pc ls (.ref (ad 0) :: rest)) := j_get J hw (j := 0) (ci := 10) rfl fi_X10 rfl 17 (by decide) rfl hlk rfl hdg kk
theorem mg_10_18 (J : Jx p m c cc nL s args own D [(cI, .int), (cZ, .boolean)] A (wsM cI cZ ad)) (hw : jW D A s.heap (wsM cI cZ ad σ) H locs) (hlk : Cond.fieldLink own index "DredgeWaysModel" "sheet" "[I" ∈ TBw) (hdg : decode cc pc = .ok (.getfield index, 3)) (kk : W p l e R s m args below meth c H locs cells slots Q (F0 m (pc + 3) ls (.ref (ad 17) :: rest))) : W p l e R s m args below meth c H locs cells slots Q (F0 m pc ls (.ref (ad 0) :: rest)) := j_get J hw (j := 0) (ci := 10) rfl fi_X10 rfl 18 (by decide) rfl hlk rfl hdg kk
theorem mg_10_19 (J : Jx p m c cc nL s args own D [(cI, .int), (cZ, .boolean)] A (wsM cI cZ ad)) (hw : jW D A s.heap (wsM cI cZ ad σ) H locs) (hlk : Cond.fieldLink own index "DredgeWaysModel" "hour" "I" ∈ TBw) (hdg : decode cc pc = .ok (.getfield index, 3)) (kk : W p l e R s m args below meth c H locs cells slots Q (F0 m (pc + 3) ls (.int (I (σ 18 7)) :: rest))) : W p l e R s m args below meth c H locs cells slots Q (F0 m pc ls (.ref (ad 0) :: rest)) := j_get J hw (j := 0) (ci := 10) rfl fi_X10 rfl 19 (by decide) rfl hlk rfl hdg kk
theorem ms_10_19 {v : Int} (J : Jx p m c cc nL s args own D [(cI, .int), (cZ, .boolean)] A (wsM cI cZ ad)) (hw : jW D A s.heap (wsM cI cZ ad σ) H locs) (hlk : Cond.fieldLink own index "DredgeWaysModel" "hour" "I" ∈ TBw) (hdg : decode cc pc = .ok (.putfield index, 3)) (kk : ∀ (H1 : Heap) (locs1 : List Loc), jW D A s.heap (wsM cI cZ ad (st σ 18 7 v)) H1 locs1 → W p l e R s m args below meth c H1 locs1 cells slots Q (F0 m (pc + 3) ls rest)) : W p l e R s m args below meth c H locs cells slots Q (F0 m pc ls (.int (I v) :: .ref (ad 0) :: rest)) := j_put J hw (j := 0) (ci := 10) rfl fi_X10 tyX10_ok nmX10 rfl 19 (by decide) rfl hlk rfl rfl (Nat.le_of_ble_eq_true rfl) rfl hdg kk
theorem mg_10_20 (J : Jx p m c cc nL s args own D [(cI, .int), (cZ, .boolean)] A (wsM cI cZ ad)) (hw : jW D A s.heap (wsM cI cZ ad σ) H locs) (hlk : Cond.fieldLink own index "DredgeWaysModel" "trips" "I" ∈ TBw) (hdg : decode cc pc = .ok (.getfield index, 3)) (kk : W p l e R s m args below meth c H locs cells slots Q (F0 m (pc + 3) ls (.int (I (σ 18 8)) :: rest))) : W p l e R s m args below meth c H locs cells slots Q (F0 m pc ls (.ref (ad 0) :: rest)) := j_get J hw (j := 0) (ci := 10) rfl fi_X10 rfl 20 (by decide) rfl hlk rfl hdg kk
theorem ms_10_20 {v : Int} (J : Jx p m c cc nL s args own D [(cI, .int), (cZ, .boolean)] A (wsM cI cZ ad)) (hw : jW D A s.heap (wsM cI cZ ad σ) H locs) (hlk : Cond.fieldLink own index "DredgeWaysModel" "trips" "I" ∈ TBw) (hdg : decode cc pc = .ok (.putfield index, 3)) (kk : ∀ (H1 : Heap) (locs1 : List Loc), jW D A s.heap (wsM cI cZ ad (st σ 18 8 v)) H1 locs1 → W p l e R s m args below meth c H1 locs1 cells slots Q (F0 m (pc + 3) ls rest)) : W p l e R s m args below meth c H locs cells slots Q (F0 m pc ls (.int (I v) :: .ref (ad 0) :: rest)) := j_put J hw (j := 0) (ci := 10) rfl fi_X10 tyX10_ok nmX10 rfl 20 (by decide) rfl hlk rfl rfl (Nat.le_of_ble_eq_true rfl) rfl hdg kk
theorem mg_10_21 (J : Jx p m c cc nL s args own D [(cI, .int), (cZ, .boolean)] A (wsM cI cZ ad)) (hw : jW D A s.heap (wsM cI cZ ad σ) H locs) (hlk : Cond.fieldLink own index "DredgeWaysModel" "dug" "I" ∈ TBw) (hdg : decode cc pc = .ok (.getfield index, 3)) (kk : W p l e R s m args below meth c H locs cells slots Q (F0 m (pc + 3) ls (.int (I (σ 18 9)) :: rest))) : W p l e R s m args below meth c H locs cells slots Q (F0 m pc ls (.ref (ad 0) :: rest)) := j_get J hw (j := 0) (ci := 10) rfl fi_X10 rfl 21 (by decide) rfl hlk rfl hdg kk
theorem ms_10_21 {v : Int} (J : Jx p m c cc nL s args own D [(cI, .int), (cZ, .boolean)] A (wsM cI cZ ad)) (hw : jW D A s.heap (wsM cI cZ ad σ) H locs) (hlk : Cond.fieldLink own index "DredgeWaysModel" "dug" "I" ∈ TBw) (hdg : decode cc pc = .ok (.putfield index, 3)) (kk : ∀ (H1 : Heap) (locs1 : List Loc), jW D A s.heap (wsM cI cZ ad (st σ 18 9 v)) H1 locs1 → W p l e R s m args below meth c H1 locs1 cells slots Q (F0 m (pc + 3) ls rest)) : W p l e R s m args below meth c H locs cells slots Q (F0 m pc ls (.int (I v) :: .ref (ad 0) :: rest)) := j_put J hw (j := 0) (ci := 10) rfl fi_X10 tyX10_ok nmX10 rfl 21 (by decide) rfl hlk rfl rfl (Nat.le_of_ble_eq_true rfl) rfl hdg kk
theorem mg_10_22 (J : Jx p m c cc nL s args own D [(cI, .int), (cZ, .boolean)] A (wsM cI cZ ad)) (hw : jW D A s.heap (wsM cI cZ ad σ) H locs) (hlk : Cond.fieldLink own index "DredgeWaysModel" "came" "I" ∈ TBw) (hdg : decode cc pc = .ok (.getfield index, 3)) (kk : W p l e R s m args below meth c H locs cells slots Q (F0 m (pc + 3) ls (.int (I (σ 18 3)) :: rest))) : W p l e R s m args below meth c H locs cells slots Q (F0 m pc ls (.ref (ad 0) :: rest)) := j_get J hw (j := 0) (ci := 10) rfl fi_X10 rfl 22 (by decide) rfl hlk rfl hdg kk
theorem ms_10_22 {v : Int} (J : Jx p m c cc nL s args own D [(cI, .int), (cZ, .boolean)] A (wsM cI cZ ad)) (hw : jW D A s.heap (wsM cI cZ ad σ) H locs) (hlk : Cond.fieldLink own index "DredgeWaysModel" "came" "I" ∈ TBw) (hdg : decode cc pc = .ok (.putfield index, 3)) (kk : ∀ (H1 : Heap) (locs1 : List Loc), jW D A s.heap (wsM cI cZ ad (st σ 18 3 v)) H1 locs1 → W p l e R s m args below meth c H1 locs1 cells slots Q (F0 m (pc + 3) ls rest)) : W p l e R s m args below meth c H locs cells slots Q (F0 m pc ls (.int (I v) :: .ref (ad 0) :: rest)) := j_put J hw (j := 0) (ci := 10) rfl fi_X10 tyX10_ok nmX10 rfl 22 (by decide) rfl hlk rfl rfl (Nat.le_of_ble_eq_true rfl) rfl hdg kk
theorem mg_10_23 (J : Jx p m c cc nL s args own D [(cI, .int), (cZ, .boolean)] A (wsM cI cZ ad)) (hw : jW D A s.heap (wsM cI cZ ad σ) H locs) (hlk : Cond.fieldLink own index "DredgeWaysModel" "gone" "I" ∈ TBw) (hdg : decode cc pc = .ok (.getfield index, 3)) (kk : W p l e R s m args below meth c H locs cells slots Q (F0 m (pc + 3) ls (.int (I (σ 18 4)) :: rest))) : W p l e R s m args below meth c H locs cells slots Q (F0 m pc ls (.ref (ad 0) :: rest)) := j_get J hw (j := 0) (ci := 10) rfl fi_X10 rfl 23 (by decide) rfl hlk rfl hdg kk
theorem ms_10_23 {v : Int} (J : Jx p m c cc nL s args own D [(cI, .int), (cZ, .boolean)] A (wsM cI cZ ad)) (hw : jW D A s.heap (wsM cI cZ ad σ) H locs) (hlk : Cond.fieldLink own index "DredgeWaysModel" "gone" "I" ∈ TBw) (hdg : decode cc pc = .ok (.putfield index, 3)) (kk : ∀ (H1 : Heap) (locs1 : List Loc), jW D A s.heap (wsM cI cZ ad (st σ 18 4 v)) H1 locs1 → W p l e R s m args below meth c H1 locs1 cells slots Q (F0 m (pc + 3) ls rest)) : W p l e R s m args below meth c H locs cells slots Q (F0 m pc ls (.int (I v) :: .ref (ad 0) :: rest)) := j_put J hw (j := 0) (ci := 10) rfl fi_X10 tyX10_ok nmX10 rfl 23 (by decide) rfl hlk rfl rfl (Nat.le_of_ble_eq_true rfl) rfl hdg kk
theorem mg_10_24 (J : Jx p m c cc nL s args own D [(cI, .int), (cZ, .boolean)] A (wsM cI cZ ad)) (hw : jW D A s.heap (wsM cI cZ ad σ) H locs) (hlk : Cond.fieldLink own index "DredgeWaysModel" "settledAll" "I" ∈ TBw) (hdg : decode cc pc = .ok (.getfield index, 3)) (kk : W p l e R s m args below meth c H locs cells slots Q (F0 m (pc + 3) ls (.int (I (σ 18 5)) :: rest))) : W p l e R s m args below meth c H locs cells slots Q (F0 m pc ls (.ref (ad 0) :: rest)) := j_get J hw (j := 0) (ci := 10) rfl fi_X10 rfl 24 (by decide) rfl hlk rfl hdg kk
theorem ms_10_24 {v : Int} (J : Jx p m c cc nL s args own D [(cI, .int), (cZ, .boolean)] A (wsM cI cZ ad)) (hw : jW D A s.heap (wsM cI cZ ad σ) H locs) (hlk : Cond.fieldLink own index "DredgeWaysModel" "settledAll" "I" ∈ TBw) (hdg : decode cc pc = .ok (.putfield index, 3)) (kk : ∀ (H1 : Heap) (locs1 : List Loc), jW D A s.heap (wsM cI cZ ad (st σ 18 5 v)) H1 locs1 → W p l e R s m args below meth c H1 locs1 cells slots Q (F0 m (pc + 3) ls rest)) : W p l e R s m args below meth c H locs cells slots Q (F0 m pc ls (.int (I v) :: .ref (ad 0) :: rest)) := j_put J hw (j := 0) (ci := 10) rfl fi_X10 tyX10_ok nmX10 rfl 24 (by decide) rfl hlk rfl rfl (Nat.le_of_ble_eq_true rfl) rfl hdg kk
theorem mg_10_25 (J : Jx p m c cc nL s args own D [(cI, .int), (cZ, .boolean)] A (wsM cI cZ ad)) (hw : jW D A s.heap (wsM cI cZ ad σ) H locs) (hlk : Cond.fieldLink own index "DredgeWaysModel" "silted" "I" ∈ TBw) (hdg : decode cc pc = .ok (.getfield index, 3)) (kk : W p l e R s m args below meth c H locs cells slots Q (F0 m (pc + 3) ls (.int (I (σ 18 2)) :: rest))) : W p l e R s m args below meth c H locs cells slots Q (F0 m pc ls (.ref (ad 0) :: rest)) := j_get J hw (j := 0) (ci := 10) rfl fi_X10 rfl 25 (by decide) rfl hlk rfl hdg kk
theorem ms_10_25 {v : Int} (J : Jx p m c cc nL s args own D [(cI, .int), (cZ, .boolean)] A (wsM cI cZ ad)) (hw : jW D A s.heap (wsM cI cZ ad σ) H locs) (hlk : Cond.fieldLink own index "DredgeWaysModel" "silted" "I" ∈ TBw) (hdg : decode cc pc = .ok (.putfield index, 3)) (kk : ∀ (H1 : Heap) (locs1 : List Loc), jW D A s.heap (wsM cI cZ ad (st σ 18 2 v)) H1 locs1 → W p l e R s m args below meth c H1 locs1 cells slots Q (F0 m (pc + 3) ls rest)) : W p l e R s m args below meth c H locs cells slots Q (F0 m pc ls (.int (I v) :: .ref (ad 0) :: rest)) := j_put J hw (j := 0) (ci := 10) rfl fi_X10 tyX10_ok nmX10 rfl 25 (by decide) rfl hlk rfl rfl (Nat.le_of_ble_eq_true rfl) rfl hdg kk
theorem mg_10_26 (J : Jx p m c cc nL s args own D [(cI, .int), (cZ, .boolean)] A (wsM cI cZ ad)) (hw : jW D A s.heap (wsM cI cZ ad σ) H locs) (hlk : Cond.fieldLink own index "DredgeWaysModel" "last" "I" ∈ TBw) (hdg : decode cc pc = .ok (.getfield index, 3)) (kk : W p l e R s m args below meth c H locs cells slots Q (F0 m (pc + 3) ls (.int (I (σ 18 12)) :: rest))) : W p l e R s m args below meth c H locs cells slots Q (F0 m pc ls (.ref (ad 0) :: rest)) := j_get J hw (j := 0) (ci := 10) rfl fi_X10 rfl 26 (by decide) rfl hlk rfl hdg kk
theorem ms_10_26 {v : Int} (J : Jx p m c cc nL s args own D [(cI, .int), (cZ, .boolean)] A (wsM cI cZ ad)) (hw : jW D A s.heap (wsM cI cZ ad σ) H locs) (hlk : Cond.fieldLink own index "DredgeWaysModel" "last" "I" ∈ TBw) (hdg : decode cc pc = .ok (.putfield index, 3)) (kk : ∀ (H1 : Heap) (locs1 : List Loc), jW D A s.heap (wsM cI cZ ad (st σ 18 12 v)) H1 locs1 → W p l e R s m args below meth c H1 locs1 cells slots Q (F0 m (pc + 3) ls rest)) : W p l e R s m args below meth c H locs cells slots Q (F0 m pc ls (.int (I v) :: .ref (ad 0) :: rest)) := j_put J hw (j := 0) (ci := 10) rfl fi_X10 tyX10_ok nmX10 rfl 26 (by decide) rfl hlk rfl rfl (Nat.le_of_ble_eq_true rfl) rfl hdg kk
theorem ma_ld_0 (J : Jx p m c cc nL s args own D [(cI, .int), (cZ, .boolean)] A (wsM cI cZ ad)) (hw : jW D A s.heap (wsM cI cZ ad σ) H locs) {i : Int} (hi : 0 ≤ i ∧ i < 5) (hdg : decode cc pc = .ok (.iaload, 1)) (kk : W p l e R s m args below meth c H locs cells slots Q (F0 m (pc + 1) ls (.int (I (σ 0 i)) :: rest))) : W p l e R s m args below meth c H locs cells slots Q (F0 m pc ls (.int (I i) :: .ref (ad 1) :: rest)) := j_iald J hw (j := 1) (n := 5) rfl (t0 := 0) rfl (Nat.le_of_ble_eq_true rfl) hi hdg kk
theorem ma_st_0 (J : Jx p m c cc nL s args own D [(cI, .int), (cZ, .boolean)] A (wsM cI cZ ad)) (hw : jW D A s.heap (wsM cI cZ ad σ) H locs) {i v : Int} (hi : 0 ≤ i ∧ i < 5) (hdg : decode cc pc = .ok (.iastore, 1)) (kk : ∀ (H1 : Heap) (locs1 : List Loc), jW D A s.heap (wsM cI cZ ad (st σ 0 i v)) H1 locs1 → W p l e R s m args below meth c H1 locs1 cells slots Q (F0 m (pc + 1) ls rest)) : W p l e R s m args below meth c H locs cells slots Q (F0 m pc ls (.int (I v) :: .int (I i) :: .ref (ad 1) :: rest)) := j_iast J hw (j := 1) (n := 5) rfl (t0 := 0) rfl (Nat.le_of_ble_eq_true rfl) hi rfl hdg kk
theorem ma_ld_1 (J : Jx p m c cc nL s args own D [(cI, .int), (cZ, .boolean)] A (wsM cI cZ ad)) (hw : jW D A s.heap (wsM cI cZ ad σ) H locs) {i : Int} (hi : 0 ≤ i ∧ i < 120) (hdg : decode cc pc = .ok (.iaload, 1)) (kk : W p l e R s m args below meth c H locs cells slots Q (F0 m (pc + 1) ls (.int (I (σ 1 i)) :: rest))) : W p l e R s m args below meth c H locs cells slots Q (F0 m pc ls (.int (I i) :: .ref (ad 2) :: rest)) := j_iald J hw (j := 2) (n := 120) rfl (t0 := 0) rfl (Nat.le_of_ble_eq_true rfl) hi hdg kk
theorem ma_st_1 (J : Jx p m c cc nL s args own D [(cI, .int), (cZ, .boolean)] A (wsM cI cZ ad)) (hw : jW D A s.heap (wsM cI cZ ad σ) H locs) {i v : Int} (hi : 0 ≤ i ∧ i < 120) (hdg : decode cc pc = .ok (.iastore, 1)) (kk : ∀ (H1 : Heap) (locs1 : List Loc), jW D A s.heap (wsM cI cZ ad (st σ 1 i v)) H1 locs1 → W p l e R s m args below meth c H1 locs1 cells slots Q (F0 m (pc + 1) ls rest)) : W p l e R s m args below meth c H locs cells slots Q (F0 m pc ls (.int (I v) :: .int (I i) :: .ref (ad 2) :: rest)) := j_iast J hw (j := 2) (n := 120) rfl (t0 := 0) rfl (Nat.le_of_ble_eq_true rfl) hi rfl hdg kk
theorem ma_ld_2 (J : Jx p m c cc nL s args own D [(cI, .int), (cZ, .boolean)] A (wsM cI cZ ad)) (hw : jW D A s.heap (wsM cI cZ ad σ) H locs) {i : Int} (hi : 0 ≤ i ∧ i < 120) (hdg : decode cc pc = .ok (.iaload, 1)) (kk : W p l e R s m args below meth c H locs cells slots Q (F0 m (pc + 1) ls (.int (I (σ 2 i)) :: rest))) : W p l e R s m args below meth c H locs cells slots Q (F0 m pc ls (.int (I i) :: .ref (ad 3) :: rest)) := j_iald J hw (j := 3) (n := 120) rfl (t0 := 0) rfl (Nat.le_of_ble_eq_true rfl) hi hdg kk
theorem ma_st_2 (J : Jx p m c cc nL s args own D [(cI, .int), (cZ, .boolean)] A (wsM cI cZ ad)) (hw : jW D A s.heap (wsM cI cZ ad σ) H locs) {i v : Int} (hi : 0 ≤ i ∧ i < 120) (hdg : decode cc pc = .ok (.iastore, 1)) (kk : ∀ (H1 : Heap) (locs1 : List Loc), jW D A s.heap (wsM cI cZ ad (st σ 2 i v)) H1 locs1 → W p l e R s m args below meth c H1 locs1 cells slots Q (F0 m (pc + 1) ls rest)) : W p l e R s m args below meth c H locs cells slots Q (F0 m pc ls (.int (I v) :: .int (I i) :: .ref (ad 3) :: rest)) := j_iast J hw (j := 3) (n := 120) rfl (t0 := 0) rfl (Nat.le_of_ble_eq_true rfl) hi rfl hdg kk
theorem ma_ld_3 (J : Jx p m c cc nL s args own D [(cI, .int), (cZ, .boolean)] A (wsM cI cZ ad)) (hw : jW D A s.heap (wsM cI cZ ad σ) H locs) {i : Int} (hi : 0 ≤ i ∧ i < 120) (hdg : decode cc pc = .ok (.iaload, 1)) (kk : W p l e R s m args below meth c H locs cells slots Q (F0 m (pc + 1) ls (.int (I (σ 3 i)) :: rest))) : W p l e R s m args below meth c H locs cells slots Q (F0 m pc ls (.int (I i) :: .ref (ad 4) :: rest)) := j_iald J hw (j := 4) (n := 120) rfl (t0 := 0) rfl (Nat.le_of_ble_eq_true rfl) hi hdg kk
theorem ma_st_3 (J : Jx p m c cc nL s args own D [(cI, .int), (cZ, .boolean)] A (wsM cI cZ ad)) (hw : jW D A s.heap (wsM cI cZ ad σ) H locs) {i v : Int} (hi : 0 ≤ i ∧ i < 120) (hdg : decode cc pc = .ok (.iastore, 1)) (kk : ∀ (H1 : Heap) (locs1 : List Loc), jW D A s.heap (wsM cI cZ ad (st σ 3 i v)) H1 locs1 → W p l e R s m args below meth c H1 locs1 cells slots Q (F0 m (pc + 1) ls rest)) : W p l e R s m args below meth c H locs cells slots Q (F0 m pc ls (.int (I v) :: .int (I i) :: .ref (ad 4) :: rest)) := j_iast J hw (j := 4) (n := 120) rfl (t0 := 0) rfl (Nat.le_of_ble_eq_true rfl) hi rfl hdg kk
theorem ma_ld_4 (J : Jx p m c cc nL s args own D [(cI, .int), (cZ, .boolean)] A (wsM cI cZ ad)) (hw : jW D A s.heap (wsM cI cZ ad σ) H locs) {i : Int} (hi : 0 ≤ i ∧ i < 120) (hdg : decode cc pc = .ok (.iaload, 1)) (kk : W p l e R s m args below meth c H locs cells slots Q (F0 m (pc + 1) ls (.int (I (σ 4 i)) :: rest))) : W p l e R s m args below meth c H locs cells slots Q (F0 m pc ls (.int (I i) :: .ref (ad 5) :: rest)) := j_iald J hw (j := 5) (n := 120) rfl (t0 := 0) rfl (Nat.le_of_ble_eq_true rfl) hi hdg kk
theorem ma_st_4 (J : Jx p m c cc nL s args own D [(cI, .int), (cZ, .boolean)] A (wsM cI cZ ad)) (hw : jW D A s.heap (wsM cI cZ ad σ) H locs) {i v : Int} (hi : 0 ≤ i ∧ i < 120) (hdg : decode cc pc = .ok (.iastore, 1)) (kk : ∀ (H1 : Heap) (locs1 : List Loc), jW D A s.heap (wsM cI cZ ad (st σ 4 i v)) H1 locs1 → W p l e R s m args below meth c H1 locs1 cells slots Q (F0 m (pc + 1) ls rest)) : W p l e R s m args below meth c H locs cells slots Q (F0 m pc ls (.int (I v) :: .int (I i) :: .ref (ad 5) :: rest)) := j_iast J hw (j := 5) (n := 120) rfl (t0 := 0) rfl (Nat.le_of_ble_eq_true rfl) hi rfl hdg kk
theorem ma_ld_5 (J : Jx p m c cc nL s args own D [(cI, .int), (cZ, .boolean)] A (wsM cI cZ ad)) (hw : jW D A s.heap (wsM cI cZ ad σ) H locs) {i : Int} (hi : 0 ≤ i ∧ i < 120) (hdg : decode cc pc = .ok (.iaload, 1)) (kk : W p l e R s m args below meth c H locs cells slots Q (F0 m (pc + 1) ls (.int (I (σ 5 i)) :: rest))) : W p l e R s m args below meth c H locs cells slots Q (F0 m pc ls (.int (I i) :: .ref (ad 6) :: rest)) := j_iald J hw (j := 6) (n := 120) rfl (t0 := 0) rfl (Nat.le_of_ble_eq_true rfl) hi hdg kk
theorem ma_st_5 (J : Jx p m c cc nL s args own D [(cI, .int), (cZ, .boolean)] A (wsM cI cZ ad)) (hw : jW D A s.heap (wsM cI cZ ad σ) H locs) {i v : Int} (hi : 0 ≤ i ∧ i < 120) (hdg : decode cc pc = .ok (.iastore, 1)) (kk : ∀ (H1 : Heap) (locs1 : List Loc), jW D A s.heap (wsM cI cZ ad (st σ 5 i v)) H1 locs1 → W p l e R s m args below meth c H1 locs1 cells slots Q (F0 m (pc + 1) ls rest)) : W p l e R s m args below meth c H locs cells slots Q (F0 m pc ls (.int (I v) :: .int (I i) :: .ref (ad 6) :: rest)) := j_iast J hw (j := 6) (n := 120) rfl (t0 := 0) rfl (Nat.le_of_ble_eq_true rfl) hi rfl hdg kk
theorem ma_ld_7 (J : Jx p m c cc nL s args own D [(cI, .int), (cZ, .boolean)] A (wsM cI cZ ad)) (hw : jW D A s.heap (wsM cI cZ ad σ) H locs) {i : Int} (hi : 0 ≤ i ∧ i < 12) (hdg : decode cc pc = .ok (.iaload, 1)) (kk : W p l e R s m args below meth c H locs cells slots Q (F0 m (pc + 1) ls (.int (I (σ 7 i)) :: rest))) : W p l e R s m args below meth c H locs cells slots Q (F0 m pc ls (.int (I i) :: .ref (ad 8) :: rest)) := j_iald J hw (j := 7) (n := 12) rfl (t0 := 0) rfl (Nat.le_of_ble_eq_true rfl) hi hdg kk
theorem ma_st_7 (J : Jx p m c cc nL s args own D [(cI, .int), (cZ, .boolean)] A (wsM cI cZ ad)) (hw : jW D A s.heap (wsM cI cZ ad σ) H locs) {i v : Int} (hi : 0 ≤ i ∧ i < 12) (hdg : decode cc pc = .ok (.iastore, 1)) (kk : ∀ (H1 : Heap) (locs1 : List Loc), jW D A s.heap (wsM cI cZ ad (st σ 7 i v)) H1 locs1 → W p l e R s m args below meth c H1 locs1 cells slots Q (F0 m (pc + 1) ls rest)) : W p l e R s m args below meth c H locs cells slots Q (F0 m pc ls (.int (I v) :: .int (I i) :: .ref (ad 8) :: rest)) := j_iast J hw (j := 7) (n := 12) rfl (t0 := 0) rfl (Nat.le_of_ble_eq_true rfl) hi rfl hdg kk
theorem ma_ld_8 (J : Jx p m c cc nL s args own D [(cI, .int), (cZ, .boolean)] A (wsM cI cZ ad)) (hw : jW D A s.heap (wsM cI cZ ad σ) H locs) {i : Int} (hi : 0 ≤ i ∧ i < 31) (hdg : decode cc pc = .ok (.iaload, 1)) (kk : W p l e R s m args below meth c H locs cells slots Q (F0 m (pc + 1) ls (.int (I (σ 8 i)) :: rest))) : W p l e R s m args below meth c H locs cells slots Q (F0 m pc ls (.int (I i) :: .ref (ad 9) :: rest)) := j_iald J hw (j := 8) (n := 31) rfl (t0 := 0) rfl (Nat.le_of_ble_eq_true rfl) hi hdg kk
theorem ma_st_8 (J : Jx p m c cc nL s args own D [(cI, .int), (cZ, .boolean)] A (wsM cI cZ ad)) (hw : jW D A s.heap (wsM cI cZ ad σ) H locs) {i v : Int} (hi : 0 ≤ i ∧ i < 31) (hdg : decode cc pc = .ok (.iastore, 1)) (kk : ∀ (H1 : Heap) (locs1 : List Loc), jW D A s.heap (wsM cI cZ ad (st σ 8 i v)) H1 locs1 → W p l e R s m args below meth c H1 locs1 cells slots Q (F0 m (pc + 1) ls rest)) : W p l e R s m args below meth c H locs cells slots Q (F0 m pc ls (.int (I v) :: .int (I i) :: .ref (ad 9) :: rest)) := j_iast J hw (j := 8) (n := 31) rfl (t0 := 0) rfl (Nat.le_of_ble_eq_true rfl) hi rfl hdg kk
theorem ma_ld_10 (J : Jx p m c cc nL s args own D [(cI, .int), (cZ, .boolean)] A (wsM cI cZ ad)) (hw : jW D A s.heap (wsM cI cZ ad σ) H locs) {i : Int} (hi : 0 ≤ i ∧ i < 3) (hdg : decode cc pc = .ok (.iaload, 1)) (kk : W p l e R s m args below meth c H locs cells slots Q (F0 m (pc + 1) ls (.int (I (σ 10 i)) :: rest))) : W p l e R s m args below meth c H locs cells slots Q (F0 m pc ls (.int (I i) :: .ref (ad 11) :: rest)) := j_iald J hw (j := 9) (n := 3) rfl (t0 := 0) rfl (Nat.le_of_ble_eq_true rfl) hi hdg kk
theorem ma_st_10 (J : Jx p m c cc nL s args own D [(cI, .int), (cZ, .boolean)] A (wsM cI cZ ad)) (hw : jW D A s.heap (wsM cI cZ ad σ) H locs) {i v : Int} (hi : 0 ≤ i ∧ i < 3) (hdg : decode cc pc = .ok (.iastore, 1)) (kk : ∀ (H1 : Heap) (locs1 : List Loc), jW D A s.heap (wsM cI cZ ad (st σ 10 i v)) H1 locs1 → W p l e R s m args below meth c H1 locs1 cells slots Q (F0 m (pc + 1) ls rest)) : W p l e R s m args below meth c H locs cells slots Q (F0 m pc ls (.int (I v) :: .int (I i) :: .ref (ad 11) :: rest)) := j_iast J hw (j := 9) (n := 3) rfl (t0 := 0) rfl (Nat.le_of_ble_eq_true rfl) hi rfl hdg kk
theorem ma_ld_11 (J : Jx p m c cc nL s args own D [(cI, .int), (cZ, .boolean)] A (wsM cI cZ ad)) (hw : jW D A s.heap (wsM cI cZ ad σ) H locs) {i : Int} (hi : 0 ≤ i ∧ i < 3) (hdg : decode cc pc = .ok (.iaload, 1)) (kk : W p l e R s m args below meth c H locs cells slots Q (F0 m (pc + 1) ls (.int (I (σ 11 i)) :: rest))) : W p l e R s m args below meth c H locs cells slots Q (F0 m pc ls (.int (I i) :: .ref (ad 12) :: rest)) := j_iald J hw (j := 10) (n := 3) rfl (t0 := 0) rfl (Nat.le_of_ble_eq_true rfl) hi hdg kk
theorem ma_st_11 (J : Jx p m c cc nL s args own D [(cI, .int), (cZ, .boolean)] A (wsM cI cZ ad)) (hw : jW D A s.heap (wsM cI cZ ad σ) H locs) {i v : Int} (hi : 0 ≤ i ∧ i < 3) (hdg : decode cc pc = .ok (.iastore, 1)) (kk : ∀ (H1 : Heap) (locs1 : List Loc), jW D A s.heap (wsM cI cZ ad (st σ 11 i v)) H1 locs1 → W p l e R s m args below meth c H1 locs1 cells slots Q (F0 m (pc + 1) ls rest)) : W p l e R s m args below meth c H locs cells slots Q (F0 m pc ls (.int (I v) :: .int (I i) :: .ref (ad 12) :: rest)) := j_iast J hw (j := 10) (n := 3) rfl (t0 := 0) rfl (Nat.le_of_ble_eq_true rfl) hi rfl hdg kk
theorem ma_ld_12 (J : Jx p m c cc nL s args own D [(cI, .int), (cZ, .boolean)] A (wsM cI cZ ad)) (hw : jW D A s.heap (wsM cI cZ ad σ) H locs) {i : Int} (hi : 0 ≤ i ∧ i < 3) (hdg : decode cc pc = .ok (.iaload, 1)) (kk : W p l e R s m args below meth c H locs cells slots Q (F0 m (pc + 1) ls (.int (I (σ 12 i)) :: rest))) : W p l e R s m args below meth c H locs cells slots Q (F0 m pc ls (.int (I i) :: .ref (ad 13) :: rest)) := j_iald J hw (j := 11) (n := 3) rfl (t0 := 0) rfl (Nat.le_of_ble_eq_true rfl) hi hdg kk
theorem ma_st_12 (J : Jx p m c cc nL s args own D [(cI, .int), (cZ, .boolean)] A (wsM cI cZ ad)) (hw : jW D A s.heap (wsM cI cZ ad σ) H locs) {i v : Int} (hi : 0 ≤ i ∧ i < 3) (hdg : decode cc pc = .ok (.iastore, 1)) (kk : ∀ (H1 : Heap) (locs1 : List Loc), jW D A s.heap (wsM cI cZ ad (st σ 12 i v)) H1 locs1 → W p l e R s m args below meth c H1 locs1 cells slots Q (F0 m (pc + 1) ls rest)) : W p l e R s m args below meth c H locs cells slots Q (F0 m pc ls (.int (I v) :: .int (I i) :: .ref (ad 13) :: rest)) := j_iast J hw (j := 11) (n := 3) rfl (t0 := 0) rfl (Nat.le_of_ble_eq_true rfl) hi rfl hdg kk
theorem ma_ld_13 (J : Jx p m c cc nL s args own D [(cI, .int), (cZ, .boolean)] A (wsM cI cZ ad)) (hw : jW D A s.heap (wsM cI cZ ad σ) H locs) {i : Int} (hi : 0 ≤ i ∧ i < 8) (hdg : decode cc pc = .ok (.iaload, 1)) (kk : W p l e R s m args below meth c H locs cells slots Q (F0 m (pc + 1) ls (.int (I (σ 13 i)) :: rest))) : W p l e R s m args below meth c H locs cells slots Q (F0 m pc ls (.int (I i) :: .ref (ad 14) :: rest)) := j_iald J hw (j := 12) (n := 8) rfl (t0 := 0) rfl (Nat.le_of_ble_eq_true rfl) hi hdg kk
theorem ma_st_13 (J : Jx p m c cc nL s args own D [(cI, .int), (cZ, .boolean)] A (wsM cI cZ ad)) (hw : jW D A s.heap (wsM cI cZ ad σ) H locs) {i v : Int} (hi : 0 ≤ i ∧ i < 8) (hdg : decode cc pc = .ok (.iastore, 1)) (kk : ∀ (H1 : Heap) (locs1 : List Loc), jW D A s.heap (wsM cI cZ ad (st σ 13 i v)) H1 locs1 → W p l e R s m args below meth c H1 locs1 cells slots Q (F0 m (pc + 1) ls rest)) : W p l e R s m args below meth c H locs cells slots Q (F0 m pc ls (.int (I v) :: .int (I i) :: .ref (ad 14) :: rest)) := j_iast J hw (j := 12) (n := 8) rfl (t0 := 0) rfl (Nat.le_of_ble_eq_true rfl) hi rfl hdg kk
theorem ma_ld_14 (J : Jx p m c cc nL s args own D [(cI, .int), (cZ, .boolean)] A (wsM cI cZ ad)) (hw : jW D A s.heap (wsM cI cZ ad σ) H locs) {i : Int} (hi : 0 ≤ i ∧ i < 8) (hdg : decode cc pc = .ok (.iaload, 1)) (kk : W p l e R s m args below meth c H locs cells slots Q (F0 m (pc + 1) ls (.int (I (σ 14 i)) :: rest))) : W p l e R s m args below meth c H locs cells slots Q (F0 m pc ls (.int (I i) :: .ref (ad 15) :: rest)) := j_iald J hw (j := 13) (n := 8) rfl (t0 := 0) rfl (Nat.le_of_ble_eq_true rfl) hi hdg kk
theorem ma_st_14 (J : Jx p m c cc nL s args own D [(cI, .int), (cZ, .boolean)] A (wsM cI cZ ad)) (hw : jW D A s.heap (wsM cI cZ ad σ) H locs) {i v : Int} (hi : 0 ≤ i ∧ i < 8) (hdg : decode cc pc = .ok (.iastore, 1)) (kk : ∀ (H1 : Heap) (locs1 : List Loc), jW D A s.heap (wsM cI cZ ad (st σ 14 i v)) H1 locs1 → W p l e R s m args below meth c H1 locs1 cells slots Q (F0 m (pc + 1) ls rest)) : W p l e R s m args below meth c H locs cells slots Q (F0 m pc ls (.int (I v) :: .int (I i) :: .ref (ad 15) :: rest)) := j_iast J hw (j := 13) (n := 8) rfl (t0 := 0) rfl (Nat.le_of_ble_eq_true rfl) hi rfl hdg kk
theorem ma_ld_15 (J : Jx p m c cc nL s args own D [(cI, .int), (cZ, .boolean)] A (wsM cI cZ ad)) (hw : jW D A s.heap (wsM cI cZ ad σ) H locs) {i : Int} (hi : 0 ≤ i ∧ i < 8) (hdg : decode cc pc = .ok (.iaload, 1)) (kk : W p l e R s m args below meth c H locs cells slots Q (F0 m (pc + 1) ls (.int (I (σ 15 i)) :: rest))) : W p l e R s m args below meth c H locs cells slots Q (F0 m pc ls (.int (I i) :: .ref (ad 16) :: rest)) := j_iald J hw (j := 14) (n := 8) rfl (t0 := 0) rfl (Nat.le_of_ble_eq_true rfl) hi hdg kk
theorem ma_st_15 (J : Jx p m c cc nL s args own D [(cI, .int), (cZ, .boolean)] A (wsM cI cZ ad)) (hw : jW D A s.heap (wsM cI cZ ad σ) H locs) {i v : Int} (hi : 0 ≤ i ∧ i < 8) (hdg : decode cc pc = .ok (.iastore, 1)) (kk : ∀ (H1 : Heap) (locs1 : List Loc), jW D A s.heap (wsM cI cZ ad (st σ 15 i v)) H1 locs1 → W p l e R s m args below meth c H1 locs1 cells slots Q (F0 m (pc + 1) ls rest)) : W p l e R s m args below meth c H locs cells slots Q (F0 m pc ls (.int (I v) :: .int (I i) :: .ref (ad 16) :: rest)) := j_iast J hw (j := 14) (n := 8) rfl (t0 := 0) rfl (Nat.le_of_ble_eq_true rfl) hi rfl hdg kk
theorem ma_ld_16 (J : Jx p m c cc nL s args own D [(cI, .int), (cZ, .boolean)] A (wsM cI cZ ad)) (hw : jW D A s.heap (wsM cI cZ ad σ) H locs) {i : Int} (hi : 0 ≤ i ∧ i < 720) (hdg : decode cc pc = .ok (.iaload, 1)) (kk : W p l e R s m args below meth c H locs cells slots Q (F0 m (pc + 1) ls (.int (I (σ 16 i)) :: rest))) : W p l e R s m args below meth c H locs cells slots Q (F0 m pc ls (.int (I i) :: .ref (ad 17) :: rest)) := j_iald J hw (j := 15) (n := 720) rfl (t0 := 0) rfl (Nat.le_of_ble_eq_true rfl) hi hdg kk
theorem ma_st_16 (J : Jx p m c cc nL s args own D [(cI, .int), (cZ, .boolean)] A (wsM cI cZ ad)) (hw : jW D A s.heap (wsM cI cZ ad σ) H locs) {i v : Int} (hi : 0 ≤ i ∧ i < 720) (hdg : decode cc pc = .ok (.iastore, 1)) (kk : ∀ (H1 : Heap) (locs1 : List Loc), jW D A s.heap (wsM cI cZ ad (st σ 16 i v)) H1 locs1 → W p l e R s m args below meth c H1 locs1 cells slots Q (F0 m (pc + 1) ls rest)) : W p l e R s m args below meth c H locs cells slots Q (F0 m pc ls (.int (I v) :: .int (I i) :: .ref (ad 17) :: rest)) := j_iast J hw (j := 15) (n := 720) rfl (t0 := 0) rfl (Nat.le_of_ble_eq_true rfl) hi rfl hdg kk
theorem ma_ld_17 (J : Jx p m c cc nL s args own D [(cI, .int), (cZ, .boolean)] A (wsM cI cZ ad)) (hw : jW D A s.heap (wsM cI cZ ad σ) H locs) {i : Int} (hi : 0 ≤ i ∧ i < 6) (hdg : decode cc pc = .ok (.baload, 1)) (kk : W p l e R s m args below meth c H locs cells slots Q (F0 m (pc + 1) ls (.int (I (σ 17 i)) :: rest))) : W p l e R s m args below meth c H locs cells slots Q (F0 m pc ls (.int (I i) :: .ref (ad 18) :: rest)) := j_zald J hw (j := 16) (n := 6) rfl (t0 := 1) rfl (Nat.le_of_ble_eq_true rfl) hi hdg kk
theorem ma_st_17 (J : Jx p m c cc nL s args own D [(cI, .int), (cZ, .boolean)] A (wsM cI cZ ad)) (hw : jW D A s.heap (wsM cI cZ ad σ) H locs) {i v : Int} (hi : 0 ≤ i ∧ i < 6) (hv : vp_nar .boolean (I v) = I v) (hdg : decode cc pc = .ok (.bastore, 1)) (kk : ∀ (H1 : Heap) (locs1 : List Loc), jW D A s.heap (wsM cI cZ ad (st σ 17 i v)) H1 locs1 → W p l e R s m args below meth c H1 locs1 cells slots Q (F0 m (pc + 1) ls rest)) : W p l e R s m args below meth c H locs cells slots Q (F0 m pc ls (.int (I v) :: .int (I i) :: .ref (ad 18) :: rest)) := j_zast J hw (j := 16) (n := 6) rfl (t0 := 1) rfl (Nat.le_of_ble_eq_true rfl) hi hv rfl hdg kk
end WR
end
section
def AD (ad : Nat → Nat) (n : Nat) : Nat → Prop := fun q => ∃ k, k < n ∧ q = ad k
/-- the first n places of an array hold v -/
def fl (σ : St) (k : Nat) (v n : Int) : St := fun k' i' => if k' = k ∧ 0 ≤ i' ∧ i' < n then v else σ k' i'
theorem fl_0 {σ : St} {k : Nat} {v : Int} : fl σ k v 0 = σ := by
  funext k' i'
  unfold fl
  rw [if_neg (by omega)]
theorem fl_step {σ : St} {k : Nat} {v n : Int} (h : 0 ≤ n) : st (fl σ k v n) k n v = fl σ k v (n + 1) := by
  funext k' i'
  show (if k' = k ∧ i' = n then v else (if k' = k ∧ 0 ≤ i' ∧ i' < n then v else σ k' i')) = (if k' = k ∧ 0 ≤ i' ∧ i' < n + 1 then v else σ k' i')
  by_cases h1 : k' = k ∧ i' = n
  · rw [if_pos h1, if_pos (by omega)]
  · rw [if_neg h1]
    by_cases h2 : k' = k ∧ 0 ≤ i' ∧ i' < n
    · rw [if_pos h2, if_pos (by omega)]
    · rw [if_neg h2, if_neg (by omega)]
def rm_X2_get : Room := { frames := 0, cells := 0, slots := 0, locals := 0 }
set_option maxHeartbeats 4000000 in
set_option maxRecDepth 100000 in
theorem c_X2_get {l : Launch} {D : va_G} {cI cZ : ClassId} {ad : Nat → Nat} {σ : St} {k : Nat} {i : Int} (hD : ∀ τ, va_D (AD ad 45) (wsX cI ad τ)) (hk : k < 18) (hi : 0 ≤ i ∧ i < lenX k) : JMi l yX2_get cX2_get 2 (some .int) rm_X2_get D [(cI, .int), (cZ, .boolean)] (AD ad 45) (wsX cI ad) [.ref (ad (9 + 2 * k)), .int (I i)] σ (fun r τ => r = σ k i ∧ τ = σ) := by
  refine JMi.of RX2 (by decide +kernel) rfl (Nat.le_of_ble_eq_true rfl) hD ?_
  intro p e s m args below meth c Q J fin H ls hw hl
  generalize ([] : List Loc) = locs at hw ⊢
  have hl : lv_has ls 2 [(0, .ref (ad (9 + 2 * k))), (1, .int (I i))] := hl
  have hlen := lenX_lt hk
  refine j_iload_n J dX2_get_0 rfl (lv_at hl 1 rfl) ?_
  refine j_if_lt J 22 (by unfold rg; omega) dX2_get_1 (by decide) (fun (h_1 : i < 0) => absurd h_1 (by omega)) (fun (h_1 : 0 ≤ i) => ?_)
  refine j_iload_n J dX2_get_4 rfl (lv_at hl 1 rfl) ?_
  refine j_aload_n J dX2_get_5 rfl (lv_at hl 0 rfl) ?_
  refine xg_num (k := k) hk J hw lk_X2_13 dX2_get_6 ?_
  refine xa_len hk J hw dX2_get_9 ?_
  refine j_icmp_ge J 22 (by unfold rg; omega) (by unfold rg; omega) dX2_get_10 (by decide) (fun (h_2 : ((lenX k : Nat) : Int) ≤ i) => absurd h_2 (by omega)) (fun (h_2 : i < ((lenX k : Nat) : Int)) => ?_)
  refine j_aload_n J dX2_get_13 rfl (lv_at hl 0 rfl) ?_
  refine xg_num (k := k) hk J hw lk_X2_13 dX2_get_14 ?_
  refine j_iload_n J dX2_get_17 rfl (lv_at hl 1 rfl) ?_
  refine xa_ld hk J hw hi dX2_get_18 ?_
  refine j_goto J 23 dX2_get_19 (by decide) ?_
  exact fin _ _ _ _ _ _ dX2_get_23 rfl (⟨rfl, rfl⟩) hw
theorem k_X2_get {p : Program} {l : Launch} {e : Env} {R : Room} {s : State} {m : MethodId} {args : Array Value} {below : List Frame} {meth : Method} {c : Code} {H : Heap} {locs : List Loc} {Q : State → Prop} {cc : ByteArray} {pc : Nat} {ls : Array Slot} {rest : List Value} {nL : Nat} {own : String} {D : va_G} {σ : St} {cI cZ : ClassId} {ad : Nat → Nat} {index : Nat} {k : Nat} {i : Int} (hD : ∀ τ, va_D (AD ad 45) (wsX cI ad τ)) (hk : k < 18) (hi : 0 ≤ i ∧ i < lenX k) (J : Jx p m c cc nL s args own D [(cI, .int), (cZ, .boolean)] (AD ad 45) (wsX cI ad)) (hw : jW D (AD ad 45) s.heap (wsX cI ad σ) H locs) (hsz : ls.size = nL) (hlk : Cond.methodLink own index yX2_get ∈ TBw) (hR : 1 ≤ R.frames ∧ 21 ≤ R.locals) (hroom : (rest.map fun v => v.category).sum ≤ 8) (hdg : decode cc pc = .ok (.invokevirtual index, 3)) (kk : ∀ (H1 : Heap) (locs1 : List Loc), jW D (AD ad 45) s.heap (wsX cI ad σ) H1 locs1 → W p l e R s m args below meth c H1 locs1 0 0 Q (F0 m (pc + 3) ls (.int (I (σ k i)) :: rest))) : W p l e R s m args below meth c H locs 0 0 Q (F0 m pc ls (.int (I i) :: .ref (ad (9 + 2 * k)) :: rest)) := 
  j_callVi J hw (c_X2_get (k := k) hD hk hi) hlk in_X2_get se_X2_get ini_X2 co_X2_get (n := 1) (by decide +kernel) ⟨rfl, rfl, hR.1, hR.2⟩ (j := 9 + 2 * k) (ci := 2) (wsX_num hk) rfl rfl rfl hroom hsz ⟨Nat.zero_le _, Nat.zero_le _⟩ rfl hdg (fun r τ H1 locs1 hp hw1 => by obtain ⟨rfl, rfl⟩ := hp; exact kk H1 locs1 hw1)
def rm_X2_put : Room := { frames := 0, cells := 0, slots := 0, locals := 0 }
set_option maxHeartbeats 4000000 in
set_option maxRecDepth 100000 in
theorem c_X2_put {l : Launch} {D : va_G} {cI cZ : ClassId} {ad : Nat → Nat} {σ : St} {k : Nat} {i v : Int} (hD : ∀ τ, va_D (AD ad 45) (wsX cI ad τ)) (hk : k < 18) (hi : 0 ≤ i ∧ i < lenX k) : JMi l yX2_put cX2_put 4 (some .int) rm_X2_put D [(cI, .int), (cZ, .boolean)] (AD ad 45) (wsX cI ad) [.ref (ad (9 + 2 * k)), .int (I i), .int (I v)] σ (fun r τ => r = σ k i ∧ τ = st σ k i v) := by
  refine JMi.of RX2 (by decide +kernel) rfl (Nat.le_of_ble_eq_true rfl) hD ?_
  intro p e s m args below meth c Q J fin H ls hw hl
  generalize ([] : List Loc) = locs at hw ⊢
  have hl : lv_has ls 4 [(0, .ref (ad (9 + 2 * k))), (1, .int (I i)), (2, .int (I v))] := hl
  have hlen := lenX_lt hk
  refine j_iload_n J dX2_put_0 rfl (lv_at hl 1 rfl) ?_
  refine j_if_lt J 13 (by unfold rg; omega) dX2_put_1 (by decide) (fun (h_1 : i < 0) => absurd h_1 (by omega)) (fun (h_1 : 0 ≤ i) => ?_)
  refine j_iload_n J dX2_put_4 rfl (lv_at hl 1 rfl) ?_
  refine j_aload_n J dX2_put_5 rfl (lv_at hl 0 rfl) ?_
  refine xg_num (k := k) hk J hw lk_X2_13 dX2_put_6 ?_
  refine xa_len hk J hw dX2_put_9 ?_
  refine j_icmp_lt J 15 (by unfold rg; omega) (by unfold rg; omega) dX2_put_10 (by decide) (fun (h_2 : i < ((lenX k : Nat) : Int)) => ?_) (fun (h_2 : ((lenX k : Nat) : Int) ≤ i) => absurd h_2 (by omega))
  refine j_aload_n J dX2_put_15 rfl (lv_at hl 0 rfl) ?_
  refine xg_num (k := k) hk J hw lk_X2_13 dX2_put_16 ?_
  refine j_iload_n J dX2_put_19 rfl (lv_at hl 1 rfl) ?_
  refine xa_ld hk J hw hi dX2_put_20 ?_
  refine j_istore_n J (lv' := [(3, .int (I (σ k i))), (0, .ref (ad (9 + 2 * k))), (1, .int (I i)), (2, .int (I v))]) hl dX2_put_21 rfl (by decide) rfl (fun ls hl => ?_)
  refine j_aload_n J dX2_put_22 rfl (lv_at hl 1 rfl) ?_
  refine xg_num (k := k) hk J hw lk_X2_13 dX2_put_23 ?_
  refine j_iload_n J dX2_put_26 rfl (lv_at hl 2 rfl) ?_
  refine j_iload_n J dX2_put_27 rfl (lv_at hl 3 rfl) ?_
  refine xa_st hk J hw hi dX2_put_28 (fun H locs hw => ?_)
  refine j_iload_n J dX2_put_29 rfl (lv_at hl 0 rfl) ?_
  exact fin _ _ _ _ _ _ dX2_put_30 rfl (⟨rfl, rfl⟩) hw
theorem k_X2_put {p : Program} {l : Launch} {e : Env} {R : Room} {s : State} {m : MethodId} {args : Array Value} {below : List Frame} {meth : Method} {c : Code} {H : Heap} {locs : List Loc} {Q : State → Prop} {cc : ByteArray} {pc : Nat} {ls : Array Slot} {rest : List Value} {nL : Nat} {own : String} {D : va_G} {σ : St} {cI cZ : ClassId} {ad : Nat → Nat} {index : Nat} {k : Nat} {i v : Int} (hD : ∀ τ, va_D (AD ad 45) (wsX cI ad τ)) (hk : k < 18) (hi : 0 ≤ i ∧ i < lenX k) (J : Jx p m c cc nL s args own D [(cI, .int), (cZ, .boolean)] (AD ad 45) (wsX cI ad)) (hw : jW D (AD ad 45) s.heap (wsX cI ad σ) H locs) (hsz : ls.size = nL) (hlk : Cond.methodLink own index yX2_put ∈ TBw) (hR : 1 ≤ R.frames ∧ 23 ≤ R.locals) (hroom : (rest.map fun v => v.category).sum ≤ 8) (hdg : decode cc pc = .ok (.invokevirtual index, 3)) (kk : ∀ (H1 : Heap) (locs1 : List Loc), jW D (AD ad 45) s.heap (wsX cI ad (st σ k i v)) H1 locs1 → W p l e R s m args below meth c H1 locs1 0 0 Q (F0 m (pc + 3) ls (.int (I (σ k i)) :: rest))) : W p l e R s m args below meth c H locs 0 0 Q (F0 m pc ls (.int (I v) :: .int (I i) :: .ref (ad (9 + 2 * k)) :: rest)) := 
  j_callVi J hw (c_X2_put (k := k) hD hk hi) hlk in_X2_put se_X2_put ini_X2 co_X2_put (n := 2) (by decide +kernel) ⟨rfl, rfl, hR.1, hR.2⟩ (j := 9 + 2 * k) (ci := 2) (wsX_num hk) rfl rfl rfl hroom hsz ⟨Nat.zero_le _, Nat.zero_le _⟩ rfl hdg (fun r τ H1 locs1 hp hw1 => by obtain ⟨rfl, rfl⟩ := hp; exact kk H1 locs1 hw1)
def rm_X2_add : Room := { frames := 1, cells := 0, slots := 0, locals := 23 }
set_option maxHeartbeats 4000000 in
set_option maxRecDepth 100000 in
theorem c_X2_add {l : Launch} {D : va_G} {cI cZ : ClassId} {ad : Nat → Nat} {σ : St} {k : Nat} {i v : Int} (hD : ∀ τ, va_D (AD ad 45) (wsX cI ad τ)) (hk : k < 18) (hi : 0 ≤ i ∧ i < lenX k) : JMv l yX2_add cX2_add 3 rm_X2_add D [(cI, .int), (cZ, .boolean)] (AD ad 45) (wsX cI ad) [.ref (ad (9 + 2 * k)), .int (I i), .int (I v)] σ (fun τ => τ = st σ k i (σ k i + v)) := by
  refine JMv.of RX2 (by decide +kernel) rfl (Nat.le_of_ble_eq_true rfl) hD ?_
  intro p e s m args below meth c Q J fin H ls hw hl
  generalize ([] : List Loc) = locs at hw ⊢
  have hl : lv_has ls 3 [(0, .ref (ad (9 + 2 * k))), (1, .int (I i)), (2, .int (I v))] := hl
  have hlen := lenX_lt hk
  refine j_aload_n J dX2_add_0 rfl (lv_at hl 0 rfl) ?_
  refine j_iload_n J dX2_add_1 rfl (lv_at hl 1 rfl) ?_
  refine j_aload_n J dX2_add_2 rfl (lv_at hl 0 rfl) ?_
  refine j_iload_n J dX2_add_3 rfl (lv_at hl 1 rfl) ?_
  refine k_X2_get (k := k) (i := i) hD hk hi J hw hl.1 lk_X2_19 ⟨Nat.le_of_ble_eq_true rfl, Nat.le_of_ble_eq_true rfl⟩ (Nat.le_of_ble_eq_true rfl) dX2_add_4 (fun H locs hw => ?_)
  refine j_iload_n J dX2_add_7 rfl (lv_at hl 2 rfl) ?_
  refine j_iadd J dX2_add_8 ?_
  refine k_X2_put (k := k) (i := i) (v := (σ k i) + v) hD hk hi J hw hl.1 lk_X2_23 ⟨Nat.le_of_ble_eq_true rfl, Nat.le_of_ble_eq_true rfl⟩ (Nat.le_of_ble_eq_true rfl) dX2_add_9 (fun H locs hw => ?_)
  refine j_pop J dX2_add_12 rfl ?_
  exact fin _ _ _ _ _ dX2_add_13 (rfl) hw
theorem k_X2_add {p : Program} {l : Launch} {e : Env} {R : Room} {s : State} {m : MethodId} {args : Array Value} {below : List Frame} {meth : Method} {c : Code} {H : Heap} {locs : List Loc} {Q : State → Prop} {cc : ByteArray} {pc : Nat} {ls : Array Slot} {rest : List Value} {nL : Nat} {own : String} {D : va_G} {σ : St} {cI cZ : ClassId} {ad : Nat → Nat} {index : Nat} {k : Nat} {i v : Int} (hD : ∀ τ, va_D (AD ad 45) (wsX cI ad τ)) (hk : k < 18) (hi : 0 ≤ i ∧ i < lenX k) (J : Jx p m c cc nL s args own D [(cI, .int), (cZ, .boolean)] (AD ad 45) (wsX cI ad)) (hw : jW D (AD ad 45) s.heap (wsX cI ad σ) H locs) (hsz : ls.size = nL) (hlk : Cond.methodLink own index yX2_add ∈ TBw) (hR : 2 ≤ R.frames ∧ 45 ≤ R.locals) (hroom : (rest.map fun v => v.category).sum ≤ 8) (hdg : decode cc pc = .ok (.invokevirtual index, 3)) (kk : ∀ (H1 : Heap) (locs1 : List Loc), jW D (AD ad 45) s.heap (wsX cI ad (st σ k i (σ k i + v))) H1 locs1 → W p l e R s m args below meth c H1 locs1 0 0 Q (F0 m (pc + 3) ls rest)) : W p l e R s m args below meth c H locs 0 0 Q (F0 m pc ls (.int (I v) :: .int (I i) :: .ref (ad (9 + 2 * k)) :: rest)) := 
  j_callVv J hw (c_X2_add (k := k) hD hk hi) hlk in_X2_add se_X2_add ini_X2 co_X2_add (n := 2) (by decide +kernel) ⟨rfl, rfl, hR.1, hR.2⟩ (j := 9 + 2 * k) (ci := 2) (wsX_num hk) rfl rfl rfl hroom hsz ⟨Nat.zero_le _, Nat.zero_le _⟩ rfl hdg (fun τ H1 locs1 hp hw1 => by subst hp; exact kk H1 locs1 hw1)
def rm_X2_fill : Room := { frames := 0, cells := 0, slots := 0, locals := 0 }
set_option maxHeartbeats 4000000 in
set_option maxRecDepth 100000 in
theorem c_X2_fill {l : Launch} {D : va_G} {cI cZ : ClassId} {ad : Nat → Nat} {σ : St} {k : Nat} {v : Int} (hD : ∀ τ, va_D (AD ad 45) (wsX cI ad τ)) (hk : k < 18) : JMv l yX2_fill cX2_fill 3 rm_X2_fill D [(cI, .int), (cZ, .boolean)] (AD ad 45) (wsX cI ad) [.ref (ad (9 + 2 * k)), .int (I v)] σ (fun τ => τ = fl σ k v (lenX k)) := by
  refine JMv.of RX2 (by decide +kernel) rfl (Nat.le_of_ble_eq_true rfl) hD ?_
  intro p e s m args below meth c Q J fin H ls hw hl
  generalize ([] : List Loc) = locs at hw ⊢
  have hl : lv_has ls 3 [(0, .ref (ad (9 + 2 * k))), (1, .int (I v))] := hl
  have hlen := lenX_lt hk
  refine j_iconst J (0) dX2_fill_0 ?_
  refine j_istore_n J (lv' := [(2, .int (I 0)), (0, .ref (ad (9 + 2 * k))), (1, .int (I v))]) hl dX2_fill_1 rfl (by decide) rfl (fun ls hl => ?_)
  have L2 : ∀ n : Nat, ∀ (i : Int), (0 ≤ i) → (i ≤ lenX k) → (((lenX k : Int) - i).toNat) < n → ∀ (H : Heap) (locs : List Loc) (ls : Array Slot), jW D (AD ad 45) s.heap (wsX cI ad (fl σ k v i)) H locs → lv_has ls 3 [(2, .int (I i)), (0, .ref (ad (9 + 2 * k))), (1, .int (I v))] → W p l e rm_X2_fill s m args below meth c H locs 0 0 Q (F0 m 2 ls []) := by
    intro n
    induction n with
    | zero =>
      intro i hi0 hi1 hm H locs ls hw hl
      exact absurd hm (Nat.not_lt_zero _)
    | succ n ih =>
      intro i hi0 hi1 hm H locs ls hw hl
      have ih2 := ih
      refine j_iload_n J dX2_fill_2 rfl (lv_at hl 0 rfl) ?_
      refine j_aload_n J dX2_fill_3 rfl (lv_at hl 1 rfl) ?_
      refine xg_num (k := k) hk J hw lk_X2_13 dX2_fill_4 ?_
      refine xa_len hk J hw dX2_fill_7 ?_
      refine j_icmp_ge J 24 (by unfold rg; omega) (by unfold rg; omega) dX2_fill_8 (by decide) (fun (h_1 : ((lenX k : Nat) : Int) ≤ i) => ?_) (fun (h_1 : i < ((lenX k : Nat) : Int)) => ?_)
      · exact fin _ _ _ _ _ dX2_fill_24 (by rw [show i = ((lenX k : Nat) : Int) by omega]) hw
      · refine j_aload_n J dX2_fill_11 rfl (lv_at hl 1 rfl) ?_
        refine xg_num (k := k) hk J hw lk_X2_13 dX2_fill_12 ?_
        refine j_iload_n J dX2_fill_15 rfl (lv_at hl 0 rfl) ?_
        refine j_iload_n J dX2_fill_16 rfl (lv_at hl 2 rfl) ?_
        refine xa_st hk J hw (by omega) dX2_fill_17 (fun H locs hw => ?_)
        refine j_iinc J (lv' := [(2, .int (I (i + 1))), (0, .ref (ad (9 + 2 * k))), (1, .int (I v))]) (k := 0) hl dX2_fill_18 rfl (by decide) rfl (fun ls hl => ?_)
        refine j_goto J 2 dX2_fill_21 (by decide) ?_
        exact ih2 (i + 1) (by omega) (by omega) (by omega) _ _ _ (by rw [← fl_step hi0]; exact hw) (lv_sub hl [0, 1, 2] rfl)
  exact L2 _ 0 (by omega) (by omega) (Nat.lt_succ_self _) _ _ _ (by rw [fl_0]; exact hw) (lv_sub hl [0, 1, 2] rfl)
theorem k_X2_fill {p : Program} {l : Launch} {e : Env} {R : Room} {s : State} {m : MethodId} {args : Array Value} {below : List Frame} {meth : Method} {c : Code} {H : Heap} {locs : List Loc} {Q : State → Prop} {cc : ByteArray} {pc : Nat} {ls : Array Slot} {rest : List Value} {nL : Nat} {own : String} {D : va_G} {σ : St} {cI cZ : ClassId} {ad : Nat → Nat} {index : Nat} {k : Nat} {v : Int} (hD : ∀ τ, va_D (AD ad 45) (wsX cI ad τ)) (hk : k < 18) (J : Jx p m c cc nL s args own D [(cI, .int), (cZ, .boolean)] (AD ad 45) (wsX cI ad)) (hw : jW D (AD ad 45) s.heap (wsX cI ad σ) H locs) (hsz : ls.size = nL) (hlk : Cond.methodLink own index yX2_fill ∈ TBw) (hR : 1 ≤ R.frames ∧ 22 ≤ R.locals) (hroom : (rest.map fun v => v.category).sum ≤ 8) (hdg : decode cc pc = .ok (.invokevirtual index, 3)) (kk : ∀ (H1 : Heap) (locs1 : List Loc), jW D (AD ad 45) s.heap (wsX cI ad (fl σ k v (lenX k))) H1 locs1 → W p l e R s m args below meth c H1 locs1 0 0 Q (F0 m (pc + 3) ls rest)) : W p l e R s m args below meth c H locs 0 0 Q (F0 m pc ls (.int (I v) :: .ref (ad (9 + 2 * k)) :: rest)) := 
  j_callVv J hw (c_X2_fill (k := k) hD hk) hlk in_X2_fill se_X2_fill ini_X2 co_X2_fill (n := 1) (by decide +kernel) ⟨rfl, rfl, hR.1, hR.2⟩ (j := 9 + 2 * k) (ci := 2) (wsX_num hk) rfl rfl rfl hroom hsz ⟨Nat.zero_le _, Nat.zero_le _⟩ rfl hdg (fun τ H1 locs1 hp hw1 => by subst hp; exact kk H1 locs1 hw1)
end
section
/-! sums, the state's bounds -/
def sumN (f : Int → Int) : Nat → Int
  | 0 => 0
  | n + 1 => sumN f n + f n
def sumI (f : Int → Int) (n : Int) : Int := sumN f n.toNat
theorem sumI_0 {f : Int → Int} : sumI f 0 = 0 := rfl
theorem sumI_step {f : Int → Int} {n : Int} (h : 0 ≤ n) : sumI f (n + 1) = sumI f n + f n := by
  obtain ⟨k, rfl⟩ := Int.eq_ofNat_of_zero_le h
  rfl
theorem sumI_cong {f g : Int → Int} {n : Int} (h : ∀ i, 0 ≤ i → i < n → f i = g i) : sumI f n = sumI g n := by
  unfold sumI
  have key : ∀ k : Nat, (k : Int) ≤ n → sumN f k = sumN g k := by
    intro k
    induction k with
    | zero => intro _; rfl
    | succ k ih =>
      intro hk
      show sumN f k + f k = sumN g k + g k
      rw [ih (by omega), h k (by omega) (by omega)]
  by_cases hn : 0 ≤ n
  · exact key _ (by omega)
  · rw [show n.toNat = 0 by omega]; rfl
def Dim (σ : St) : Prop := 1 ≤ σ 18 0 ∧ σ 18 0 ≤ 12 ∧ 1 ≤ σ 18 1 ∧ σ 18 1 ≤ 10
theorem mul_rng {a b : Int} (h1 : 1 ≤ a) (h2 : a ≤ 12) (h3 : 1 ≤ b) (h4 : b ≤ 10) : 1 ≤ a * b ∧ a * b ≤ 120 := by
  have h5 : 1 * 1 ≤ a * b := Int.mul_le_mul h1 h3 (by omega) (by omega)
  have h6 : a * b ≤ 12 * 10 := Int.mul_le_mul h2 h4 (by omega) (by omega)
  omega
theorem Dim.mul {σ : St} (h : Dim σ) : 1 ≤ σ 18 0 * σ 18 1 ∧ σ 18 0 * σ 18 1 ≤ 120 := mul_rng h.1 h.2.1 h.2.2.1 h.2.2.2
/-- a cell's number, by its row and its column -/
theorem cell_in {C R r x : Int} (hr0 : 0 ≤ r) (hr : r < R) (hx0 : 0 ≤ x) (hx : x < C) : 0 ≤ r * C ∧ r * C + C ≤ C * R := by
  have h1 : 0 ≤ r * C := Int.mul_nonneg hr0 (by omega)
  have h2 : (r + 1) * C ≤ R * C := Int.mul_le_mul_of_nonneg_right (by omega) (by omega)
  rw [Int.add_mul, Int.one_mul, Int.mul_comm R C] at h2
  exact ⟨h1, h2⟩
/-- bounds of all numbers that are compared: kept within an hour's end and a trip too -/
def Bd (σ : St) : Prop := Dim σ ∧ (∀ c, 0 ≤ σ 1 c ∧ σ 1 c ≤ 400) ∧ (∀ c, 0 ≤ σ 2 c ∧ σ 2 c ≤ 300) ∧ (∀ c, 0 ≤ σ 4 c ∧ σ 4 c ≤ 5 + 120 * σ 18 8) ∧ (∀ c, 0 ≤ σ 5 c ∧ σ 5 c ≤ 3) ∧
  (0 ≤ σ 0 0 ∧ σ 0 0 ≤ 50) ∧ (∀ j, 1 ≤ j → j ≤ 3 → 0 ≤ σ 0 j ∧ σ 0 j ≤ 400) ∧ (-1 ≤ σ 0 4 ∧ σ 0 4 ≤ 1) ∧ (∀ h, 0 ≤ σ 7 h ∧ σ 7 h ≤ 60) ∧ (∀ t, 0 ≤ σ 8 t ∧ σ 8 t ≤ 200) ∧
  (∀ s, 0 ≤ σ 10 s ∧ σ 10 s ≤ 100000) ∧ (∀ s, 0 ≤ σ 11 s ∧ σ 11 s ≤ 100000) ∧ (∀ s, 0 ≤ s → s ≤ 2 → 1 ≤ σ 12 s ∧ σ 12 s ≤ 20) ∧
  (0 ≤ σ 18 6 ∧ σ 18 6 ≤ 8) ∧ (∀ p, 0 ≤ p → p < σ 18 6 → 0 ≤ σ 13 p ∧ σ 13 p < σ 18 0 * σ 18 1) ∧ (∀ p, 0 ≤ σ 14 p ∧ σ 14 p ≤ 10000) ∧ (0 ≤ σ 18 7 ∧ σ 18 7 ≤ 5000) ∧ (0 ≤ σ 18 8 ∧ σ 18 8 ≤ 5001) ∧
  (∀ i, -4 ≤ σ 16 i ∧ σ 16 i ≤ 400) ∧ (∀ s, 0 ≤ σ 17 s ∧ σ 17 s ≤ 1)
section BD
variable {σ : St}
theorem Bd.dim (h : Bd σ) : Dim σ := h.1
theorem Bd.depth (h : Bd σ) (c : Int) : 0 ≤ σ 1 c ∧ σ 1 c ≤ 400 := h.2.1 c
theorem Bd.design (h : Bd σ) (c : Int) : 0 ≤ σ 2 c ∧ σ 2 c ≤ 300 := h.2.2.1 c
theorem Bd.cloud (h : Bd σ) (c : Int) : 0 ≤ σ 4 c ∧ σ 4 c ≤ 5 + 120 * σ 18 8 := h.2.2.2.1 c
theorem Bd.loose (h : Bd σ) (c : Int) : 0 ≤ σ 5 c ∧ σ 5 c ≤ 3 := h.2.2.2.2.1 c
theorem Bd.over (h : Bd σ) : 0 ≤ σ 0 0 ∧ σ 0 0 ≤ 50 := h.2.2.2.2.2.1
theorem Bd.rule (h : Bd σ) (j : Int) (h1 : 1 ≤ j) (h2 : j ≤ 3) : 0 ≤ σ 0 j ∧ σ 0 j ≤ 400 := h.2.2.2.2.2.2.1 j h1 h2
theorem Bd.current (h : Bd σ) : -1 ≤ σ 0 4 ∧ σ 0 4 ≤ 1 := h.2.2.2.2.2.2.2.1
theorem Bd.tide (h : Bd σ) (j : Int) : 0 ≤ σ 7 j ∧ σ 7 j ≤ 60 := h.2.2.2.2.2.2.2.2.1 j
theorem Bd.table (h : Bd σ) (j : Int) : 0 ≤ σ 8 j ∧ σ 8 j ≤ 200 := h.2.2.2.2.2.2.2.2.2.1 j
theorem Bd.held (h : Bd σ) (j : Int) : 0 ≤ σ 10 j ∧ σ 10 j ≤ 100000 := h.2.2.2.2.2.2.2.2.2.2.1 j
theorem Bd.most (h : Bd σ) (j : Int) : 0 ≤ σ 11 j ∧ σ 11 j ≤ 100000 := h.2.2.2.2.2.2.2.2.2.2.2.1 j
theorem Bd.away (h : Bd σ) (j : Int) (h1 : 0 ≤ j) (h2 : j ≤ 2) : 1 ≤ σ 12 j ∧ σ 12 j ≤ 20 := h.2.2.2.2.2.2.2.2.2.2.2.2.1 j h1 h2
theorem Bd.posts (h : Bd σ) : 0 ≤ σ 18 6 ∧ σ 18 6 ≤ 8 := h.2.2.2.2.2.2.2.2.2.2.2.2.2.1
theorem Bd.place (h : Bd σ) (p : Int) (h1 : 0 ≤ p) (h2 : p < σ 18 6) : 0 ≤ σ 13 p ∧ σ 13 p < σ 18 0 * σ 18 1 := h.2.2.2.2.2.2.2.2.2.2.2.2.2.2.1 p h1 h2
theorem Bd.limit (h : Bd σ) (p : Int) : 0 ≤ σ 14 p ∧ σ 14 p ≤ 10000 := h.2.2.2.2.2.2.2.2.2.2.2.2.2.2.2.1 p
theorem Bd.hour (h : Bd σ) : 0 ≤ σ 18 7 ∧ σ 18 7 ≤ 5000 := h.2.2.2.2.2.2.2.2.2.2.2.2.2.2.2.2.1
theorem Bd.trips (h : Bd σ) : 0 ≤ σ 18 8 ∧ σ 18 8 ≤ 5001 := h.2.2.2.2.2.2.2.2.2.2.2.2.2.2.2.2.2.1
theorem Bd.sheet (h : Bd σ) (i : Int) : -4 ≤ σ 16 i ∧ σ 16 i ≤ 400 := h.2.2.2.2.2.2.2.2.2.2.2.2.2.2.2.2.2.2.1 i
theorem Bd.taken (h : Bd σ) (i : Int) : 0 ≤ σ 17 i ∧ σ 17 i ≤ 1 := h.2.2.2.2.2.2.2.2.2.2.2.2.2.2.2.2.2.2.2 i
end BD
end
section
/-! what the small loops make -/
def feN (σ : St) (h : Int) : Nat → Int → Int
  | 0, _ => -1
  | n + 1, x => if h ≤ σ 7 (x % 12) then x else feN σ h n (x + 1)
theorem feN_step {σ : St} {h x e : Int} (hx : x < e) (hn : ¬ h ≤ σ 7 (x % 12)) : feN σ h (e - x).toNat x = feN σ h ((e - x).toNat - 1) (x + 1) := by
  obtain ⟨k, hk⟩ : ∃ k, (e - x).toNat = k + 1 := ⟨(e - x).toNat - 1, by omega⟩
  rw [hk]
  show (if h ≤ σ 7 (x % 12) then x else feN σ h k (x + 1)) = _
  rw [if_neg hn]
  rfl
theorem feN_hit {σ : St} {h x e : Int} (hx : x < e) (hn : h ≤ σ 7 (x % 12)) : feN σ h (e - x).toNat x = x := by
  obtain ⟨k, hk⟩ : ∃ k, (e - x).toNat = k + 1 := ⟨(e - x).toNat - 1, by omega⟩
  rw [hk]
  exact if_pos hn
def tbS (σ : St) (n : Int) : St := fun k i => if k = 8 ∧ 0 ≤ i ∧ i < n then i else σ k i
theorem tbS_0 {σ : St} : tbS σ 0 = σ := by
  funext k i
  unfold tbS
  rw [if_neg (by omega)]
theorem tbS_step {σ : St} {n : Int} (h : 0 ≤ n) : st (tbS σ n) 8 n n = tbS σ (n + 1) := by
  funext k i
  show (if k = 8 ∧ i = n then n else (if k = 8 ∧ 0 ≤ i ∧ i < n then i else σ k i)) = (if k = 8 ∧ 0 ≤ i ∧ i < n + 1 then i else σ k i)
  by_cases h1 : k = 8 ∧ i = n
  · rw [if_pos h1, if_pos (by omega)]; omega
  · rw [if_neg h1]
    by_cases h2 : k = 8 ∧ 0 ≤ i ∧ i < n
    · rw [if_pos h2, if_pos (by omega)]
    · rw [if_neg h2, if_neg (by omega)]
/-- the hold's table, half changed -/
def hdS (σ : St) (t v lo mid hi : Int) : St := fun k i => if k = 8 ∧ 1 ≤ i ∧ i < lo then min v (σ 8 i) else if k = 8 ∧ i = t ∧ mid = 1 then v else if k = 8 ∧ t < i ∧ i < hi then max v (σ 8 i) else σ k i
theorem hdS_0 {σ : St} {t v : Int} : hdS σ t v 1 0 (t + 1) = σ := by
  funext k i
  unfold hdS
  rw [if_neg (by omega), if_neg (by omega), if_neg (by omega)]
theorem hdS_at1 {σ : St} {t v i : Int} (h : i < t) : hdS σ t v i 0 (t + 1) 8 i = σ 8 i := by
  unfold hdS
  rw [if_neg (by omega), if_neg (by omega), if_neg (by omega)]
theorem hdS_at2 {σ : St} {t v i : Int} (h : t < i) : hdS σ t v t 1 i 8 i = σ 8 i := by
  unfold hdS
  rw [if_neg (by omega), if_neg (by omega), if_neg (by omega)]
theorem hdS_lo {σ : St} {t v i : Int} (h0 : 1 ≤ i) (h : i < t) : st (hdS σ t v i 0 (t + 1)) 8 i (min v (σ 8 i)) = hdS σ t v (i + 1) 0 (t + 1) := by
  funext k j
  unfold st
  by_cases h1 : k = 8 ∧ j = i
  · rw [if_pos h1]; unfold hdS; rw [if_pos (by omega), h1.2]
  · rw [if_neg h1]; unfold hdS
    by_cases h2 : k = 8 ∧ 1 ≤ j ∧ j < i
    · rw [if_pos h2, if_pos (by omega)]
    · rw [if_neg h2, if_neg (by omega), if_neg (show ¬ (k = 8 ∧ 1 ≤ j ∧ j < i + 1) by omega)]
theorem hdS_mid {σ : St} {t v : Int} (h : 1 ≤ t) : st (hdS σ t v t 0 (t + 1)) 8 t v = hdS σ t v t 1 (t + 1) := by
  funext k j
  unfold st
  by_cases h1 : k = 8 ∧ j = t
  · rw [if_pos h1]; unfold hdS; rw [if_neg (by omega), if_pos (by omega)]
  · rw [if_neg h1]; unfold hdS
    by_cases h2 : k = 8 ∧ 1 ≤ j ∧ j < t
    · rw [if_pos h2, if_pos h2]
    · rw [if_neg h2, if_neg h2, if_neg (by omega), if_neg (by omega), if_neg (by omega)]
theorem hdS_hi {σ : St} {t v i : Int} (h : t + 1 ≤ i) : st (hdS σ t v t 1 i) 8 i (max v (σ 8 i)) = hdS σ t v t 1 (i + 1) := by
  funext k j
  unfold st
  by_cases h1 : k = 8 ∧ j = i
  · rw [if_pos h1]; unfold hdS; rw [if_neg (by omega), if_neg (by omega), if_pos (by omega), h1.2]
  · rw [if_neg h1]; unfold hdS
    by_cases h2 : k = 8 ∧ 1 ≤ j ∧ j < t
    · rw [if_pos h2, if_pos h2]
    · rw [if_neg h2, if_neg h2]
      by_cases h3 : k = 8 ∧ j = t ∧ (1 : Int) = 1
      · rw [if_pos h3, if_pos h3]
      · rw [if_neg h3, if_neg h3]
        by_cases h4 : k = 8 ∧ t < j ∧ j < i
        · rw [if_pos h4, if_pos (by omega)]
        · rw [if_neg h4, if_neg (by omega)]
/-- BEST, found up to the n-th minute behind the first -/
def bsN (σ : St) (a : Int) : Nat → Int
  | 0 => 1
  | n + 1 => if σ 8 (bsN σ a n) * (((n : Int) + 2) + 120 * a) < σ 8 ((n : Int) + 2) * (bsN σ a n + 120 * a) then (n : Int) + 2 else bsN σ a n
theorem bsN_yes {σ : St} {a t f : Int} (ht : 2 ≤ t) (hf : f = bsN σ a (t - 2).toNat) (h : σ 8 f * (t + 120 * a) < σ 8 t * (f + 120 * a)) : t = bsN σ a ((t - 2).toNat + 1) := by
  show t = if σ 8 (bsN σ a (t - 2).toNat) * (((((t - 2).toNat : Nat) : Int) + 2) + 120 * a) < σ 8 ((((t - 2).toNat : Nat) : Int) + 2) * (bsN σ a (t - 2).toNat + 120 * a) then (((t - 2).toNat : Nat) : Int) + 2 else bsN σ a (t - 2).toNat
  rw [← hf, show (((t - 2).toNat : Nat) : Int) + 2 = t by omega, if_pos h]
theorem bsN_no {σ : St} {a t f : Int} (ht : 2 ≤ t) (hf : f = bsN σ a (t - 2).toNat) (h : ¬ σ 8 f * (t + 120 * a) < σ 8 t * (f + 120 * a)) : f = bsN σ a ((t - 2).toNat + 1) := by
  show f = if σ 8 (bsN σ a (t - 2).toNat) * (((((t - 2).toNat : Nat) : Int) + 2) + 120 * a) < σ 8 ((((t - 2).toNat : Nat) : Int) + 2) * (bsN σ a (t - 2).toNat + 120 * a) then (((t - 2).toNat : Nat) : Int) + 2 else bsN σ a (t - 2).toNat
  rw [← hf, show (((t - 2).toNat : Nat) : Int) + 2 = t by omega, if_neg h]
/-- the POSTS up to the n-th, as an hour's end finds them -/
def wtS (σ : St) (n : Int) : St := fun k i => if k = 15 ∧ 0 ≤ i ∧ i < n ∧ σ 14 i < σ 4 (σ 13 i) then σ 15 i + 1 else σ k i
theorem wtS_0 {σ : St} : wtS σ 0 = σ := by
  funext k i
  unfold wtS
  rw [if_neg (by omega)]
theorem wtS_at {σ : St} {n : Int} : wtS σ n 15 n = σ 15 n := by
  unfold wtS
  rw [if_neg (by omega)]
theorem wtS_yes {σ : St} {n : Int} (h : 0 ≤ n) (hc : σ 14 n < σ 4 (σ 13 n)) : st (wtS σ n) 15 n (wtS σ n 15 n + 1) = wtS σ (n + 1) := by
  rw [wtS_at]
  funext k i
  unfold st
  by_cases h1 : k = 15 ∧ i = n
  · obtain ⟨rfl, rfl⟩ := h1
    rw [if_pos ⟨rfl, rfl⟩]; unfold wtS; rw [if_pos ⟨rfl, by omega, by omega, hc⟩]
  · rw [if_neg h1]; unfold wtS
    by_cases h2 : k = 15 ∧ 0 ≤ i ∧ i < n ∧ σ 14 i < σ 4 (σ 13 i)
    · rw [if_pos h2, if_pos ⟨h2.1, h2.2.1, by omega, h2.2.2.2⟩]
    · rw [if_neg h2, if_neg (fun h3 => h2 ⟨h3.1, h3.2.1, by have := h3.2.2.1; omega, h3.2.2.2⟩)]
theorem wtS_no {σ : St} {n : Int} (h : 0 ≤ n) (hc : ¬ σ 14 n < σ 4 (σ 13 n)) : wtS σ n = wtS σ (n + 1) := by
  funext k i
  unfold wtS
  by_cases h2 : k = 15 ∧ 0 ≤ i ∧ i < n ∧ σ 14 i < σ 4 (σ 13 i)
  · rw [if_pos h2, if_pos ⟨h2.1, h2.2.1, by omega, h2.2.2.2⟩]
  · rw [if_neg h2, if_neg (fun h3 => h2 ⟨h3.1, h3.2.1, by have := h3.2.2.1; have : i ≠ n := (fun e => by subst e; exact hc h3.2.2.2); omega, h3.2.2.2⟩)]
def rm_X9_within : Room := { frames := 0, cells := 0, slots := 0, locals := 0 }
set_option maxHeartbeats 4000000 in
set_option maxRecDepth 100000 in
theorem c_X9_within {l : Launch} {D : va_G} {cI cZ : ClassId} {ad : Nat → Nat} {σ : St} {v lo hi : Int} (hD : ∀ τ, va_D (AD ad 45) (wsX cI ad τ)) (r_v : rg v) (r_lo : rg lo) (r_hi : rg hi) : JMi l yX9_within cX9_within 3 (some .boolean) rm_X9_within D [(cI, .int), (cZ, .boolean)] (AD ad 45) (wsX cI ad) [.int (I v), .int (I lo), .int (I hi)] σ (fun r τ => r = (if lo ≤ v ∧ v ≤ hi then 1 else 0) ∧ τ = σ) := by
  refine JMi.of RX9 (by decide +kernel) rfl (Nat.le_of_ble_eq_true rfl) hD ?_
  intro p e s m args below meth c Q J fin H ls hw hl
  generalize ([] : List Loc) = locs at hw ⊢
  have hl : lv_has ls 3 [(0, .int (I v)), (1, .int (I lo)), (2, .int (I hi))] := hl
  refine j_iload_n J dX9_within_0 rfl (lv_at hl 0 rfl) ?_
  refine j_iload_n J dX9_within_1 rfl (lv_at hl 1 rfl) ?_
  refine j_icmp_lt J 14 (by assumption) (by assumption) dX9_within_2 (by decide) (fun (h_1 : v < lo) => ?_) (fun (h_1 : lo ≤ v) => ?_)
  · refine j_iconst J (0) dX9_within_14 ?_
    exact fin _ _ _ _ _ _ dX9_within_15 rfl (⟨by first | exact (if_pos (by omega)).symm | exact (if_neg (by omega)).symm, rfl⟩) hw
  · refine j_iload_n J dX9_within_5 rfl (lv_at hl 0 rfl) ?_
    refine j_iload_n J dX9_within_6 rfl (lv_at hl 2 rfl) ?_
    refine j_icmp_gt J 14 (by assumption) (by assumption) dX9_within_7 (by decide) (fun (h_2 : hi < v) => ?_) (fun (h_2 : v ≤ hi) => ?_)
    · refine j_iconst J (0) dX9_within_14 ?_
      exact fin _ _ _ _ _ _ dX9_within_15 rfl (⟨by first | exact (if_pos (by omega)).symm | exact (if_neg (by omega)).symm, rfl⟩) hw
    · refine j_iconst J (1) dX9_within_10 ?_
      refine j_goto J 15 dX9_within_11 (by decide) ?_
      exact fin _ _ _ _ _ _ dX9_within_15 rfl (⟨by first | exact (if_pos (by omega)).symm | exact (if_neg (by omega)).symm, rfl⟩) hw
theorem k_X9_within {p : Program} {l : Launch} {e : Env} {R : Room} {s : State} {m : MethodId} {args : Array Value} {below : List Frame} {meth : Method} {c : Code} {H : Heap} {locs : List Loc} {Q : State → Prop} {cc : ByteArray} {pc : Nat} {ls : Array Slot} {rest : List Value} {nL : Nat} {D : va_G} {σ : St} {cI cZ : ClassId} {ad : Nat → Nat} {index : Nat} {v lo hi : Int} (hD : ∀ τ, va_D (AD ad 45) (wsX cI ad τ)) (r_v : rg v) (r_lo : rg lo) (r_hi : rg hi) (J : Jx p m c cc nL s args RX9 D [(cI, .int), (cZ, .boolean)] (AD ad 45) (wsX cI ad)) (hw : jW D (AD ad 45) s.heap (wsX cI ad σ) H locs) (hsz : ls.size = nL) (hlk : Cond.methodLink RX9 index yX9_within ∈ TBw) (hR : 1 ≤ R.frames ∧ 22 ≤ R.locals) (hroom : (rest.map fun v => v.category).sum ≤ 8) (hdg : decode cc pc = .ok (.invokestatic index, 3)) (kk : ∀ (H1 : Heap) (locs1 : List Loc), jW D (AD ad 45) s.heap (wsX cI ad σ) H1 locs1 → W p l e R s m args below meth c H1 locs1 0 0 Q (F0 m (pc + 3) ls (.int (I (if lo ≤ v ∧ v ≤ hi then 1 else 0)) :: rest))) : W p l e R s m args below meth c H locs 0 0 Q (F0 m pc ls (.int (I hi) :: .int (I lo) :: .int (I v) :: rest)) := 
  j_callSi J hw (c_X9_within  hD r_v r_lo r_hi) hlk sta_X9_within ini_X9 co_X9_within (n := 3) (by decide +kernel) ⟨rfl, rfl, hR.1, hR.2⟩ rfl hroom hsz ⟨Nat.zero_le _, Nat.zero_le _⟩ rfl hdg (fun r τ H1 locs1 hp hw1 => by obtain ⟨rfl, rfl⟩ := hp; exact kk H1 locs1 hw1)
theorem kn_X9_within {p : Program} {l : Launch} {e : Env} {R : Room} {s : State} {m : MethodId} {args : Array Value} {below : List Frame} {meth : Method} {c : Code} {H : Heap} {locs : List Loc} {Q : State → Prop} {cc : ByteArray} {pc : Nat} {ls : Array Slot} {rest : List Value} {nL : Nat} {own : String} {D : va_G} {σ : St} {cI cZ : ClassId} {ad : Nat → Nat} {index : Nat} {v lo hi : Int} (hD : ∀ τ, va_D (AD ad 45) (wsX cI ad τ)) (r_v : rg v) (r_lo : rg lo) (r_hi : rg hi) (J : Jx p m c cc nL s args own D [(cI, .int), (cZ, .boolean)] (AD ad 45) (wsX cI ad)) (hw : jW D (AD ad 45) s.heap (wsX cI ad σ) H locs) (hsz : ls.size = nL) (hlk : Cond.methodLinkNest own index yX9_within RX9 ∈ nwList) (hR : 1 ≤ R.frames ∧ 22 ≤ R.locals) (hroom : (rest.map fun v => v.category).sum ≤ 8) (hdg : decode cc pc = .ok (.invokestatic index, 3)) (kk : ∀ (H1 : Heap) (locs1 : List Loc), jW D (AD ad 45) s.heap (wsX cI ad σ) H1 locs1 → W p l e R s m args below meth c H1 locs1 0 0 Q (F0 m (pc + 3) ls (.int (I (if lo ≤ v ∧ v ≤ hi then 1 else 0)) :: rest))) : W p l e R s m args below meth c H locs 0 0 Q (F0 m pc ls (.int (I hi) :: .int (I lo) :: .int (I v) :: rest)) := 
  j_callNi J hw (c_X9_within  hD r_v r_lo r_hi) hlk sta_X9_within ini_X9 co_X9_within (n := 3) (by decide +kernel) ⟨rfl, rfl, hR.1, hR.2⟩ rfl hroom hsz ⟨Nat.zero_le _, Nat.zero_le _⟩ rfl hdg (fun r τ H1 locs1 hp hw1 => by obtain ⟨rfl, rfl⟩ := hp; exact kk H1 locs1 hw1)
def rm_X9_leastOfRule : Room := { frames := 0, cells := 0, slots := 0, locals := 0 }
set_option maxHeartbeats 4000000 in
set_option maxRecDepth 100000 in
theorem c_X9_leastOfRule {l : Launch} {D : va_G} {cI cZ : ClassId} {ad : Nat → Nat} {σ : St} {w : Int} (hD : ∀ τ, va_D (AD ad 45) (wsX cI ad τ)) (r_w : rg w) : JMi l yX9_leastOfRule cX9_leastOfRule 1 (some .int) rm_X9_leastOfRule D [(cI, .int), (cZ, .boolean)] (AD ad 45) (wsX cI ad) [.int (I w)] σ (fun r τ => r = (if w = 4 then -1 else 0) ∧ τ = σ) := by
  refine JMi.of RX9 (by decide +kernel) rfl (Nat.le_of_ble_eq_true rfl) hD ?_
  intro p e s m args below meth c Q J fin H ls hw hl
  generalize ([] : List Loc) = locs at hw ⊢
  have hl : lv_has ls 1 [(0, .int (I w))] := hl
  have u_w := r_w; unfold rg at u_w
  refine j_iload_n J dX9_leastOfRule_0 rfl (lv_at hl 0 rfl) ?_
  refine j_iconst J (4) dX9_leastOfRule_1 ?_
  refine j_icmp_ne J 9 (show rg w by unfold rg; omega) (by unfold rg; omega) dX9_leastOfRule_2 (by decide) (fun (h_1 : ¬ w = 4) => ?_) (fun (h_1 : w = 4) => ?_)
  · refine j_iconst J (0) dX9_leastOfRule_9 ?_
    exact fin _ _ _ _ _ _ dX9_leastOfRule_10 rfl (⟨by first | exact (if_pos (by omega)).symm | exact (if_neg (by omega)).symm, rfl⟩) hw
  · refine j_iconst J (-1) dX9_leastOfRule_5 ?_
    refine j_goto J 10 dX9_leastOfRule_6 (by decide) ?_
    exact fin _ _ _ _ _ _ dX9_leastOfRule_10 rfl (⟨by first | exact (if_pos (by omega)).symm | exact (if_neg (by omega)).symm, rfl⟩) hw
theorem k_X9_leastOfRule {p : Program} {l : Launch} {e : Env} {R : Room} {s : State} {m : MethodId} {args : Array Value} {below : List Frame} {meth : Method} {c : Code} {H : Heap} {locs : List Loc} {Q : State → Prop} {cc : ByteArray} {pc : Nat} {ls : Array Slot} {rest : List Value} {nL : Nat} {D : va_G} {σ : St} {cI cZ : ClassId} {ad : Nat → Nat} {index : Nat} {w : Int} (hD : ∀ τ, va_D (AD ad 45) (wsX cI ad τ)) (r_w : rg w) (J : Jx p m c cc nL s args RX9 D [(cI, .int), (cZ, .boolean)] (AD ad 45) (wsX cI ad)) (hw : jW D (AD ad 45) s.heap (wsX cI ad σ) H locs) (hsz : ls.size = nL) (hlk : Cond.methodLink RX9 index yX9_leastOfRule ∈ TBw) (hR : 1 ≤ R.frames ∧ 20 ≤ R.locals) (hroom : (rest.map fun v => v.category).sum ≤ 8) (hdg : decode cc pc = .ok (.invokestatic index, 3)) (kk : ∀ (H1 : Heap) (locs1 : List Loc), jW D (AD ad 45) s.heap (wsX cI ad σ) H1 locs1 → W p l e R s m args below meth c H1 locs1 0 0 Q (F0 m (pc + 3) ls (.int (I (if w = 4 then -1 else 0)) :: rest))) : W p l e R s m args below meth c H locs 0 0 Q (F0 m pc ls (.int (I w) :: rest)) := 
  j_callSi J hw (c_X9_leastOfRule  hD r_w) hlk sta_X9_leastOfRule ini_X9 co_X9_leastOfRule (n := 1) (by decide +kernel) ⟨rfl, rfl, hR.1, hR.2⟩ rfl hroom hsz ⟨Nat.zero_le _, Nat.zero_le _⟩ rfl hdg (fun r τ H1 locs1 hp hw1 => by obtain ⟨rfl, rfl⟩ := hp; exact kk H1 locs1 hw1)
theorem kn_X9_leastOfRule {p : Program} {l : Launch} {e : Env} {R : Room} {s : State} {m : MethodId} {args : Array Value} {below : List Frame} {meth : Method} {c : Code} {H : Heap} {locs : List Loc} {Q : State → Prop} {cc : ByteArray} {pc : Nat} {ls : Array Slot} {rest : List Value} {nL : Nat} {own : String} {D : va_G} {σ : St} {cI cZ : ClassId} {ad : Nat → Nat} {index : Nat} {w : Int} (hD : ∀ τ, va_D (AD ad 45) (wsX cI ad τ)) (r_w : rg w) (J : Jx p m c cc nL s args own D [(cI, .int), (cZ, .boolean)] (AD ad 45) (wsX cI ad)) (hw : jW D (AD ad 45) s.heap (wsX cI ad σ) H locs) (hsz : ls.size = nL) (hlk : Cond.methodLinkNest own index yX9_leastOfRule RX9 ∈ nwList) (hR : 1 ≤ R.frames ∧ 20 ≤ R.locals) (hroom : (rest.map fun v => v.category).sum ≤ 8) (hdg : decode cc pc = .ok (.invokestatic index, 3)) (kk : ∀ (H1 : Heap) (locs1 : List Loc), jW D (AD ad 45) s.heap (wsX cI ad σ) H1 locs1 → W p l e R s m args below meth c H1 locs1 0 0 Q (F0 m (pc + 3) ls (.int (I (if w = 4 then -1 else 0)) :: rest))) : W p l e R s m args below meth c H locs 0 0 Q (F0 m pc ls (.int (I w) :: rest)) := 
  j_callNi J hw (c_X9_leastOfRule  hD r_w) hlk sta_X9_leastOfRule ini_X9 co_X9_leastOfRule (n := 1) (by decide +kernel) ⟨rfl, rfl, hR.1, hR.2⟩ rfl hroom hsz ⟨Nat.zero_le _, Nat.zero_le _⟩ rfl hdg (fun r τ H1 locs1 hp hw1 => by obtain ⟨rfl, rfl⟩ := hp; exact kk H1 locs1 hw1)
def rm_X9_mostOfRule : Room := { frames := 0, cells := 0, slots := 0, locals := 0 }
set_option maxHeartbeats 4000000 in
set_option maxRecDepth 100000 in
theorem c_X9_mostOfRule {l : Launch} {D : va_G} {cI cZ : ClassId} {ad : Nat → Nat} {σ : St} {w : Int} (hD : ∀ τ, va_D (AD ad 45) (wsX cI ad τ)) (r_w : rg w) : JMi l yX9_mostOfRule cX9_mostOfRule 1 (some .int) rm_X9_mostOfRule D [(cI, .int), (cZ, .boolean)] (AD ad 45) (wsX cI ad) [.int (I w)] σ (fun r τ => r = (if w = 0 then 50 else if w = 4 then 1 else 400) ∧ τ = σ) := by
  refine JMi.of RX9 (by decide +kernel) rfl (Nat.le_of_ble_eq_true rfl) hD ?_
  intro p e s m args below meth c Q J fin H ls hw hl
  generalize ([] : List Loc) = locs at hw ⊢
  have hl : lv_has ls 1 [(0, .int (I w))] := hl
  have u_w := r_w; unfold rg at u_w
  refine j_iload_n J dX9_mostOfRule_0 rfl (lv_at hl 0 rfl) ?_
  refine j_if_ne J 7 (show rg w by unfold rg; omega) dX9_mostOfRule_1 (by decide) (fun (h_1 : ¬ w = 0) => ?_) (fun (h_1 : w = 0) => ?_)
  · refine j_iload_n J dX9_mostOfRule_7 rfl (lv_at hl 0 rfl) ?_
    refine j_iconst J (4) dX9_mostOfRule_8 ?_
    refine j_icmp_ne J 16 (show rg w by unfold rg; omega) (by unfold rg; omega) dX9_mostOfRule_9 (by decide) (fun (h_2 : ¬ w = 4) => ?_) (fun (h_2 : w = 4) => ?_)
    · refine j_sipush J (400) dX9_mostOfRule_16 (by decide) ?_
      exact fin _ _ _ _ _ _ dX9_mostOfRule_19 rfl (⟨by first | exact (if_pos (by omega)).symm | (rw [if_neg (by omega)]; first | exact (if_pos (by omega)).symm | exact (if_neg (by omega)).symm), rfl⟩) hw
    · refine j_iconst J (1) dX9_mostOfRule_12 ?_
      refine j_goto J 19 dX9_mostOfRule_13 (by decide) ?_
      exact fin _ _ _ _ _ _ dX9_mostOfRule_19 rfl (⟨by first | exact (if_pos (by omega)).symm | (rw [if_neg (by omega)]; first | exact (if_pos (by omega)).symm | exact (if_neg (by omega)).symm), rfl⟩) hw
  · refine j_bipush J (50) dX9_mostOfRule_4 (by decide) ?_
    exact fin _ _ _ _ _ _ dX9_mostOfRule_6 rfl (⟨by first | exact (if_pos (by omega)).symm | (rw [if_neg (by omega)]; first | exact (if_pos (by omega)).symm | exact (if_neg (by omega)).symm), rfl⟩) hw
theorem k_X9_mostOfRule {p : Program} {l : Launch} {e : Env} {R : Room} {s : State} {m : MethodId} {args : Array Value} {below : List Frame} {meth : Method} {c : Code} {H : Heap} {locs : List Loc} {Q : State → Prop} {cc : ByteArray} {pc : Nat} {ls : Array Slot} {rest : List Value} {nL : Nat} {D : va_G} {σ : St} {cI cZ : ClassId} {ad : Nat → Nat} {index : Nat} {w : Int} (hD : ∀ τ, va_D (AD ad 45) (wsX cI ad τ)) (r_w : rg w) (J : Jx p m c cc nL s args RX9 D [(cI, .int), (cZ, .boolean)] (AD ad 45) (wsX cI ad)) (hw : jW D (AD ad 45) s.heap (wsX cI ad σ) H locs) (hsz : ls.size = nL) (hlk : Cond.methodLink RX9 index yX9_mostOfRule ∈ TBw) (hR : 1 ≤ R.frames ∧ 20 ≤ R.locals) (hroom : (rest.map fun v => v.category).sum ≤ 8) (hdg : decode cc pc = .ok (.invokestatic index, 3)) (kk : ∀ (H1 : Heap) (locs1 : List Loc), jW D (AD ad 45) s.heap (wsX cI ad σ) H1 locs1 → W p l e R s m args below meth c H1 locs1 0 0 Q (F0 m (pc + 3) ls (.int (I (if w = 0 then 50 else if w = 4 then 1 else 400)) :: rest))) : W p l e R s m args below meth c H locs 0 0 Q (F0 m pc ls (.int (I w) :: rest)) := 
  j_callSi J hw (c_X9_mostOfRule  hD r_w) hlk sta_X9_mostOfRule ini_X9 co_X9_mostOfRule (n := 1) (by decide +kernel) ⟨rfl, rfl, hR.1, hR.2⟩ rfl hroom hsz ⟨Nat.zero_le _, Nat.zero_le _⟩ rfl hdg (fun r τ H1 locs1 hp hw1 => by obtain ⟨rfl, rfl⟩ := hp; exact kk H1 locs1 hw1)
theorem kn_X9_mostOfRule {p : Program} {l : Launch} {e : Env} {R : Room} {s : State} {m : MethodId} {args : Array Value} {below : List Frame} {meth : Method} {c : Code} {H : Heap} {locs : List Loc} {Q : State → Prop} {cc : ByteArray} {pc : Nat} {ls : Array Slot} {rest : List Value} {nL : Nat} {own : String} {D : va_G} {σ : St} {cI cZ : ClassId} {ad : Nat → Nat} {index : Nat} {w : Int} (hD : ∀ τ, va_D (AD ad 45) (wsX cI ad τ)) (r_w : rg w) (J : Jx p m c cc nL s args own D [(cI, .int), (cZ, .boolean)] (AD ad 45) (wsX cI ad)) (hw : jW D (AD ad 45) s.heap (wsX cI ad σ) H locs) (hsz : ls.size = nL) (hlk : Cond.methodLinkNest own index yX9_mostOfRule RX9 ∈ nwList) (hR : 1 ≤ R.frames ∧ 20 ≤ R.locals) (hroom : (rest.map fun v => v.category).sum ≤ 8) (hdg : decode cc pc = .ok (.invokestatic index, 3)) (kk : ∀ (H1 : Heap) (locs1 : List Loc), jW D (AD ad 45) s.heap (wsX cI ad σ) H1 locs1 → W p l e R s m args below meth c H1 locs1 0 0 Q (F0 m (pc + 3) ls (.int (I (if w = 0 then 50 else if w = 4 then 1 else 400)) :: rest))) : W p l e R s m args below meth c H locs 0 0 Q (F0 m pc ls (.int (I w) :: rest)) := 
  j_callNi J hw (c_X9_mostOfRule  hD r_w) hlk sta_X9_mostOfRule ini_X9 co_X9_mostOfRule (n := 1) (by decide +kernel) ⟨rfl, rfl, hR.1, hR.2⟩ rfl hroom hsz ⟨Nat.zero_le _, Nat.zero_le _⟩ rfl hdg (fun r τ H1 locs1 hp hw1 => by obtain ⟨rfl, rfl⟩ := hp; exact kk H1 locs1 hw1)
def rm_X1_size : Room := { frames := 0, cells := 0, slots := 0, locals := 0 }
set_option maxHeartbeats 4000000 in
set_option maxRecDepth 100000 in
theorem c_X1_size {l : Launch} {D : va_G} {cI cZ : ClassId} {ad : Nat → Nat} {σ : St}  (hD : ∀ τ, va_D (AD ad 45) (wsX cI ad τ))  : JMi l yX1_size cX1_size 1 (some .int) rm_X1_size D [(cI, .int), (cZ, .boolean)] (AD ad 45) (wsX cI ad) [.ref (ad 1)] σ (fun r τ => r = (σ 18 0 * σ 18 1) ∧ τ = σ) := by
  refine JMi.of RX1 (by decide +kernel) rfl (Nat.le_of_ble_eq_true rfl) hD ?_
  intro p e s m args below meth c Q J fin H ls hw hl
  generalize ([] : List Loc) = locs at hw ⊢
  have hl : lv_has ls 1 [(0, .ref (ad 1))] := hl
  refine j_aload_n J dX1_size_0 rfl (lv_at hl 0 rfl) ?_
  refine xg_1_3 J hw lk_X1_26 dX1_size_1 ?_
  refine j_aload_n J dX1_size_4 rfl (lv_at hl 0 rfl) ?_
  refine xg_1_4 J hw lk_X1_30 dX1_size_5 ?_
  refine j_imul J dX1_size_8 ?_
  exact fin _ _ _ _ _ _ dX1_size_9 rfl (⟨by first | rfl | exact (if_pos (by omega)).symm | exact (if_neg (by omega)).symm | omega, rfl⟩) hw
theorem k_X1_size {p : Program} {l : Launch} {e : Env} {R : Room} {s : State} {m : MethodId} {args : Array Value} {below : List Frame} {meth : Method} {c : Code} {H : Heap} {locs : List Loc} {Q : State → Prop} {cc : ByteArray} {pc : Nat} {ls : Array Slot} {rest : List Value} {nL : Nat} {own : String} {D : va_G} {σ : St} {cI cZ : ClassId} {ad : Nat → Nat} {index : Nat}  (hD : ∀ τ, va_D (AD ad 45) (wsX cI ad τ))  (J : Jx p m c cc nL s args own D [(cI, .int), (cZ, .boolean)] (AD ad 45) (wsX cI ad)) (hw : jW D (AD ad 45) s.heap (wsX cI ad σ) H locs) (hsz : ls.size = nL) (hlk : Cond.methodLink own index yX1_size ∈ TBw) (hR : 1 ≤ R.frames ∧ 20 ≤ R.locals) (hroom : (rest.map fun v => v.category).sum ≤ 8) (hdg : decode cc pc = .ok (.invokevirtual index, 3)) (kk : ∀ (H1 : Heap) (locs1 : List Loc), jW D (AD ad 45) s.heap (wsX cI ad σ) H1 locs1 → W p l e R s m args below meth c H1 locs1 0 0 Q (F0 m (pc + 3) ls (.int (I (σ 18 0 * σ 18 1)) :: rest))) : W p l e R s m args below meth c H locs 0 0 Q (F0 m pc ls (.ref (ad 1) :: rest)) := 
  j_callVi J hw (c_X1_size  hD ) hlk in_X1_size se_X1_size ini_X1 co_X1_size (n := 0) (by decide +kernel) ⟨rfl, rfl, hR.1, hR.2⟩ (j := 1) (ci := 1) rfl rfl rfl rfl hroom hsz ⟨Nat.zero_le _, Nat.zero_le _⟩ rfl hdg (fun r τ H1 locs1 hp hw1 => by obtain ⟨rfl, rfl⟩ := hp; exact kk H1 locs1 hw1)
def rm_X1_has : Room := { frames := 1, cells := 0, slots := 0, locals := 22 }
set_option maxHeartbeats 4000000 in
set_option maxRecDepth 100000 in
theorem c_X1_has {l : Launch} {D : va_G} {cI cZ : ClassId} {ad : Nat → Nat} {σ : St} {cell : Int} (hD : ∀ τ, va_D (AD ad 45) (wsX cI ad τ)) (hd : Dim σ) (r_cell : rg cell) : JMi l yX1_has cX1_has 2 (some .boolean) rm_X1_has D [(cI, .int), (cZ, .boolean)] (AD ad 45) (wsX cI ad) [.ref (ad 1), .int (I cell)] σ (fun r τ => r = (if 0 ≤ cell ∧ cell ≤ σ 18 0 * σ 18 1 - 1 then 1 else 0) ∧ τ = σ) := by
  refine JMi.of RX1 (by decide +kernel) rfl (Nat.le_of_ble_eq_true rfl) hD ?_
  intro p e s m args below meth c Q J fin H ls hw hl
  generalize ([] : List Loc) = locs at hw ⊢
  have hl : lv_has ls 2 [(0, .ref (ad 1)), (1, .int (I cell))] := hl
  have hd1 := hd.1; have hd2 := hd.2.1; have hd3 := hd.2.2.1; have hd4 := hd.2.2.2; have hm := hd.mul
  have u_cell := r_cell; unfold rg at u_cell
  refine j_iload_n J dX1_has_0 rfl (lv_at hl 1 rfl) ?_
  refine j_iconst J (0) dX1_has_1 ?_
  refine j_aload_n J dX1_has_2 rfl (lv_at hl 0 rfl) ?_
  refine k_X1_size  hD  J hw hl.1 lk_X1_39 ⟨Nat.le_of_ble_eq_true rfl, Nat.le_of_ble_eq_true rfl⟩ (Nat.le_of_ble_eq_true rfl) dX1_has_3 (fun H locs hw => ?_)
  refine j_iconst J (1) dX1_has_6 ?_
  refine j_isub J dX1_has_7 ?_
  refine kn_X9_within (v := cell) (lo := 0) (hi := (σ 18 0 * σ 18 1) - 1) hD (by unfold rg; omega) (by unfold rg; omega) (by unfold rg; omega) J hw hl.1 (List.mem_of_getElem? (i := 8) rfl) ⟨Nat.le_of_ble_eq_true rfl, Nat.le_of_ble_eq_true rfl⟩ (Nat.le_of_ble_eq_true rfl) dX1_has_8 (fun H locs hw => ?_)
  exact fin _ _ _ _ _ _ dX1_has_11 (by split <;> rfl) (⟨rfl, rfl⟩) hw
theorem k_X1_has {p : Program} {l : Launch} {e : Env} {R : Room} {s : State} {m : MethodId} {args : Array Value} {below : List Frame} {meth : Method} {c : Code} {H : Heap} {locs : List Loc} {Q : State → Prop} {cc : ByteArray} {pc : Nat} {ls : Array Slot} {rest : List Value} {nL : Nat} {own : String} {D : va_G} {σ : St} {cI cZ : ClassId} {ad : Nat → Nat} {index : Nat} {cell : Int} (hD : ∀ τ, va_D (AD ad 45) (wsX cI ad τ)) (hd : Dim σ) (r_cell : rg cell) (J : Jx p m c cc nL s args own D [(cI, .int), (cZ, .boolean)] (AD ad 45) (wsX cI ad)) (hw : jW D (AD ad 45) s.heap (wsX cI ad σ) H locs) (hsz : ls.size = nL) (hlk : Cond.methodLink own index yX1_has ∈ TBw) (hR : 2 ≤ R.frames ∧ 43 ≤ R.locals) (hroom : (rest.map fun v => v.category).sum ≤ 8) (hdg : decode cc pc = .ok (.invokevirtual index, 3)) (kk : ∀ (H1 : Heap) (locs1 : List Loc), jW D (AD ad 45) s.heap (wsX cI ad σ) H1 locs1 → W p l e R s m args below meth c H1 locs1 0 0 Q (F0 m (pc + 3) ls (.int (I (if 0 ≤ cell ∧ cell ≤ σ 18 0 * σ 18 1 - 1 then 1 else 0)) :: rest))) : W p l e R s m args below meth c H locs 0 0 Q (F0 m pc ls (.int (I cell) :: .ref (ad 1) :: rest)) := 
  j_callVi J hw (c_X1_has  hD hd r_cell) hlk in_X1_has se_X1_has ini_X1 co_X1_has (n := 1) (by decide +kernel) ⟨rfl, rfl, hR.1, hR.2⟩ (j := 1) (ci := 1) rfl rfl rfl rfl hroom hsz ⟨Nat.zero_le _, Nat.zero_le _⟩ rfl hdg (fun r τ H1 locs1 hp hw1 => by obtain ⟨rfl, rfl⟩ := hp; exact kk H1 locs1 hw1)
def rm_X1_hasRow : Room := { frames := 1, cells := 0, slots := 0, locals := 22 }
set_option maxHeartbeats 4000000 in
set_option maxRecDepth 100000 in
theorem c_X1_hasRow {l : Launch} {D : va_G} {cI cZ : ClassId} {ad : Nat → Nat} {σ : St} {row : Int} (hD : ∀ τ, va_D (AD ad 45) (wsX cI ad τ)) (hd : Dim σ) (r_row : rg row) : JMi l yX1_hasRow cX1_hasRow 2 (some .boolean) rm_X1_hasRow D [(cI, .int), (cZ, .boolean)] (AD ad 45) (wsX cI ad) [.ref (ad 1), .int (I row)] σ (fun r τ => r = (if 0 ≤ row ∧ row ≤ σ 18 1 - 1 then 1 else 0) ∧ τ = σ) := by
  refine JMi.of RX1 (by decide +kernel) rfl (Nat.le_of_ble_eq_true rfl) hD ?_
  intro p e s m args below meth c Q J fin H ls hw hl
  generalize ([] : List Loc) = locs at hw ⊢
  have hl : lv_has ls 2 [(0, .ref (ad 1)), (1, .int (I row))] := hl
  have hd1 := hd.1; have hd2 := hd.2.1; have hd3 := hd.2.2.1; have hd4 := hd.2.2.2; have hm := hd.mul
  have u_row := r_row; unfold rg at u_row
  refine j_iload_n J dX1_hasRow_0 rfl (lv_at hl 1 rfl) ?_
  refine j_iconst J (0) dX1_hasRow_1 ?_
  refine j_aload_n J dX1_hasRow_2 rfl (lv_at hl 0 rfl) ?_
  refine xg_1_4 J hw lk_X1_30 dX1_hasRow_3 ?_
  refine j_iconst J (1) dX1_hasRow_6 ?_
  refine j_isub J dX1_hasRow_7 ?_
  refine kn_X9_within (v := row) (lo := 0) (hi := (σ 18 1) - 1) hD (by unfold rg; omega) (by unfold rg; omega) (by unfold rg; omega) J hw hl.1 (List.mem_of_getElem? (i := 8) rfl) ⟨Nat.le_of_ble_eq_true rfl, Nat.le_of_ble_eq_true rfl⟩ (Nat.le_of_ble_eq_true rfl) dX1_hasRow_8 (fun H locs hw => ?_)
  exact fin _ _ _ _ _ _ dX1_hasRow_11 (by split <;> rfl) (⟨rfl, rfl⟩) hw
theorem k_X1_hasRow {p : Program} {l : Launch} {e : Env} {R : Room} {s : State} {m : MethodId} {args : Array Value} {below : List Frame} {meth : Method} {c : Code} {H : Heap} {locs : List Loc} {Q : State → Prop} {cc : ByteArray} {pc : Nat} {ls : Array Slot} {rest : List Value} {nL : Nat} {own : String} {D : va_G} {σ : St} {cI cZ : ClassId} {ad : Nat → Nat} {index : Nat} {row : Int} (hD : ∀ τ, va_D (AD ad 45) (wsX cI ad τ)) (hd : Dim σ) (r_row : rg row) (J : Jx p m c cc nL s args own D [(cI, .int), (cZ, .boolean)] (AD ad 45) (wsX cI ad)) (hw : jW D (AD ad 45) s.heap (wsX cI ad σ) H locs) (hsz : ls.size = nL) (hlk : Cond.methodLink own index yX1_hasRow ∈ TBw) (hR : 2 ≤ R.frames ∧ 43 ≤ R.locals) (hroom : (rest.map fun v => v.category).sum ≤ 8) (hdg : decode cc pc = .ok (.invokevirtual index, 3)) (kk : ∀ (H1 : Heap) (locs1 : List Loc), jW D (AD ad 45) s.heap (wsX cI ad σ) H1 locs1 → W p l e R s m args below meth c H1 locs1 0 0 Q (F0 m (pc + 3) ls (.int (I (if 0 ≤ row ∧ row ≤ σ 18 1 - 1 then 1 else 0)) :: rest))) : W p l e R s m args below meth c H locs 0 0 Q (F0 m pc ls (.int (I row) :: .ref (ad 1) :: rest)) := 
  j_callVi J hw (c_X1_hasRow  hD hd r_row) hlk in_X1_hasRow se_X1_hasRow ini_X1 co_X1_hasRow (n := 1) (by decide +kernel) ⟨rfl, rfl, hR.1, hR.2⟩ (j := 1) (ci := 1) rfl rfl rfl rfl hroom hsz ⟨Nat.zero_le _, Nat.zero_le _⟩ rfl hdg (fun r τ H1 locs1 hp hw1 => by obtain ⟨rfl, rfl⟩ := hp; exact kk H1 locs1 hw1)
def rm_X1_hasColumn : Room := { frames := 1, cells := 0, slots := 0, locals := 22 }
set_option maxHeartbeats 4000000 in
set_option maxRecDepth 100000 in
theorem c_X1_hasColumn {l : Launch} {D : va_G} {cI cZ : ClassId} {ad : Nat → Nat} {σ : St} {col : Int} (hD : ∀ τ, va_D (AD ad 45) (wsX cI ad τ)) (hd : Dim σ) (r_col : rg col) : JMi l yX1_hasColumn cX1_hasColumn 2 (some .boolean) rm_X1_hasColumn D [(cI, .int), (cZ, .boolean)] (AD ad 45) (wsX cI ad) [.ref (ad 1), .int (I col)] σ (fun r τ => r = (if 0 ≤ col ∧ col ≤ σ 18 0 - 1 then 1 else 0) ∧ τ = σ) := by
  refine JMi.of RX1 (by decide +kernel) rfl (Nat.le_of_ble_eq_true rfl) hD ?_
  intro p e s m args below meth c Q J fin H ls hw hl
  generalize ([] : List Loc) = locs at hw ⊢
  have hl : lv_has ls 2 [(0, .ref (ad 1)), (1, .int (I col))] := hl
  have hd1 := hd.1; have hd2 := hd.2.1; have hd3 := hd.2.2.1; have hd4 := hd.2.2.2; have hm := hd.mul
  have u_col := r_col; unfold rg at u_col
  refine j_iload_n J dX1_hasColumn_0 rfl (lv_at hl 1 rfl) ?_
  refine j_iconst J (0) dX1_hasColumn_1 ?_
  refine j_aload_n J dX1_hasColumn_2 rfl (lv_at hl 0 rfl) ?_
  refine xg_1_3 J hw lk_X1_26 dX1_hasColumn_3 ?_
  refine j_iconst J (1) dX1_hasColumn_6 ?_
  refine j_isub J dX1_hasColumn_7 ?_
  refine kn_X9_within (v := col) (lo := 0) (hi := (σ 18 0) - 1) hD (by unfold rg; omega) (by unfold rg; omega) (by unfold rg; omega) J hw hl.1 (List.mem_of_getElem? (i := 8) rfl) ⟨Nat.le_of_ble_eq_true rfl, Nat.le_of_ble_eq_true rfl⟩ (Nat.le_of_ble_eq_true rfl) dX1_hasColumn_8 (fun H locs hw => ?_)
  exact fin _ _ _ _ _ _ dX1_hasColumn_11 (by split <;> rfl) (⟨rfl, rfl⟩) hw
theorem k_X1_hasColumn {p : Program} {l : Launch} {e : Env} {R : Room} {s : State} {m : MethodId} {args : Array Value} {below : List Frame} {meth : Method} {c : Code} {H : Heap} {locs : List Loc} {Q : State → Prop} {cc : ByteArray} {pc : Nat} {ls : Array Slot} {rest : List Value} {nL : Nat} {own : String} {D : va_G} {σ : St} {cI cZ : ClassId} {ad : Nat → Nat} {index : Nat} {col : Int} (hD : ∀ τ, va_D (AD ad 45) (wsX cI ad τ)) (hd : Dim σ) (r_col : rg col) (J : Jx p m c cc nL s args own D [(cI, .int), (cZ, .boolean)] (AD ad 45) (wsX cI ad)) (hw : jW D (AD ad 45) s.heap (wsX cI ad σ) H locs) (hsz : ls.size = nL) (hlk : Cond.methodLink own index yX1_hasColumn ∈ TBw) (hR : 2 ≤ R.frames ∧ 43 ≤ R.locals) (hroom : (rest.map fun v => v.category).sum ≤ 8) (hdg : decode cc pc = .ok (.invokevirtual index, 3)) (kk : ∀ (H1 : Heap) (locs1 : List Loc), jW D (AD ad 45) s.heap (wsX cI ad σ) H1 locs1 → W p l e R s m args below meth c H1 locs1 0 0 Q (F0 m (pc + 3) ls (.int (I (if 0 ≤ col ∧ col ≤ σ 18 0 - 1 then 1 else 0)) :: rest))) : W p l e R s m args below meth c H locs 0 0 Q (F0 m pc ls (.int (I col) :: .ref (ad 1) :: rest)) := 
  j_callVi J hw (c_X1_hasColumn  hD hd r_col) hlk in_X1_hasColumn se_X1_hasColumn ini_X1 co_X1_hasColumn (n := 1) (by decide +kernel) ⟨rfl, rfl, hR.1, hR.2⟩ (j := 1) (ci := 1) rfl rfl rfl rfl hroom hsz ⟨Nat.zero_le _, Nat.zero_le _⟩ rfl hdg (fun r τ H1 locs1 hp hw1 => by obtain ⟨rfl, rfl⟩ := hp; exact kk H1 locs1 hw1)
def rm_X1_number : Room := { frames := 0, cells := 0, slots := 0, locals := 0 }
set_option maxHeartbeats 4000000 in
set_option maxRecDepth 100000 in
theorem c_X1_number {l : Launch} {D : va_G} {cI cZ : ClassId} {ad : Nat → Nat} {σ : St} {row col : Int} (hD : ∀ τ, va_D (AD ad 45) (wsX cI ad τ))  : JMi l yX1_number cX1_number 3 (some .int) rm_X1_number D [(cI, .int), (cZ, .boolean)] (AD ad 45) (wsX cI ad) [.ref (ad 1), .int (I row), .int (I col)] σ (fun r τ => r = (row * σ 18 0 + col) ∧ τ = σ) := by
  refine JMi.of RX1 (by decide +kernel) rfl (Nat.le_of_ble_eq_true rfl) hD ?_
  intro p e s m args below meth c Q J fin H ls hw hl
  generalize ([] : List Loc) = locs at hw ⊢
  have hl : lv_has ls 3 [(0, .ref (ad 1)), (1, .int (I row)), (2, .int (I col))] := hl
  refine j_iload_n J dX1_number_0 rfl (lv_at hl 1 rfl) ?_
  refine j_aload_n J dX1_number_1 rfl (lv_at hl 0 rfl) ?_
  refine xg_1_3 J hw lk_X1_26 dX1_number_2 ?_
  refine j_imul J dX1_number_5 ?_
  refine j_iload_n J dX1_number_6 rfl (lv_at hl 2 rfl) ?_
  refine j_iadd J dX1_number_7 ?_
  exact fin _ _ _ _ _ _ dX1_number_8 rfl (⟨rfl, rfl⟩) hw
theorem k_X1_number {p : Program} {l : Launch} {e : Env} {R : Room} {s : State} {m : MethodId} {args : Array Value} {below : List Frame} {meth : Method} {c : Code} {H : Heap} {locs : List Loc} {Q : State → Prop} {cc : ByteArray} {pc : Nat} {ls : Array Slot} {rest : List Value} {nL : Nat} {own : String} {D : va_G} {σ : St} {cI cZ : ClassId} {ad : Nat → Nat} {index : Nat} {row col : Int} (hD : ∀ τ, va_D (AD ad 45) (wsX cI ad τ))  (J : Jx p m c cc nL s args own D [(cI, .int), (cZ, .boolean)] (AD ad 45) (wsX cI ad)) (hw : jW D (AD ad 45) s.heap (wsX cI ad σ) H locs) (hsz : ls.size = nL) (hlk : Cond.methodLink own index yX1_number ∈ TBw) (hR : 1 ≤ R.frames ∧ 22 ≤ R.locals) (hroom : (rest.map fun v => v.category).sum ≤ 8) (hdg : decode cc pc = .ok (.invokevirtual index, 3)) (kk : ∀ (H1 : Heap) (locs1 : List Loc), jW D (AD ad 45) s.heap (wsX cI ad σ) H1 locs1 → W p l e R s m args below meth c H1 locs1 0 0 Q (F0 m (pc + 3) ls (.int (I (row * σ 18 0 + col)) :: rest))) : W p l e R s m args below meth c H locs 0 0 Q (F0 m pc ls (.int (I col) :: .int (I row) :: .ref (ad 1) :: rest)) := 
  j_callVi J hw (c_X1_number  hD ) hlk in_X1_number se_X1_number ini_X1 co_X1_number (n := 2) (by decide +kernel) ⟨rfl, rfl, hR.1, hR.2⟩ (j := 1) (ci := 1) rfl rfl rfl rfl hroom hsz ⟨Nat.zero_le _, Nat.zero_le _⟩ rfl hdg (fun r τ H1 locs1 hp hw1 => by obtain ⟨rfl, rfl⟩ := hp; exact kk H1 locs1 hw1)
def rm_X1_room : Room := { frames := 1, cells := 0, slots := 0, locals := 21 }
set_option maxHeartbeats 4000000 in
set_option maxRecDepth 100000 in
theorem c_X1_room {l : Launch} {D : va_G} {cI cZ : ClassId} {ad : Nat → Nat} {σ : St} {cell over : Int} (hD : ∀ τ, va_D (AD ad 45) (wsX cI ad τ)) (hB : Bd σ) (hc : 0 ≤ cell ∧ cell < 120) (ho : 0 ≤ over ∧ over ≤ 50) : JMi l yX1_room cX1_room 3 (some .int) rm_X1_room D [(cI, .int), (cZ, .boolean)] (AD ad 45) (wsX cI ad) [.ref (ad 1), .int (I cell), .int (I over)] σ (fun r τ => r = (if σ 2 cell = 0 then 0 else max 0 (σ 2 cell + over - σ 1 cell)) ∧ τ = σ) := by
  refine JMi.of RX1 (by decide +kernel) rfl (Nat.le_of_ble_eq_true rfl) hD ?_
  intro p e s m args below meth c Q J fin H ls hw hl
  generalize ([] : List Loc) = locs at hw ⊢
  have hl : lv_has ls 3 [(0, .ref (ad 1)), (1, .int (I cell)), (2, .int (I over))] := hl
  have hd : Dim _ := hB.dim
  have hd1 := hd.1; have hd2 := hd.2.1; have hd3 := hd.2.2.1; have hd4 := hd.2.2.2; have hm := hd.mul
  have b1 := hB.depth cell; have b2 := hB.design cell
  refine j_aload_n J dX1_room_0 rfl (lv_at hl 0 rfl) ?_
  refine xg_1_1 J hw lk_X1_20 dX1_room_1 ?_
  refine j_iload_n J dX1_room_4 rfl (lv_at hl 1 rfl) ?_
  refine k_X2_get (k := 2) (i := cell) hD (by decide) (show 0 ≤ cell ∧ cell < ((120 : Nat) : Int) from by omega) J hw hl.1 lk_X1_47 ⟨Nat.le_of_ble_eq_true rfl, Nat.le_of_ble_eq_true rfl⟩ (Nat.le_of_ble_eq_true rfl) dX1_room_5 (fun H locs hw => ?_)
  refine j_if_ne J 13 (show rg (σ 2 cell) by unfold rg; omega) dX1_room_8 (by decide) (fun (h_1 : ¬ (σ 2 cell) = 0) => ?_) (fun (h_1 : (σ 2 cell) = 0) => ?_)
  · refine j_iconst J (0) dX1_room_13 ?_
    refine j_aload_n J dX1_room_14 rfl (lv_at hl 0 rfl) ?_
    refine xg_1_1 J hw lk_X1_20 dX1_room_15 ?_
    refine j_iload_n J dX1_room_18 rfl (lv_at hl 1 rfl) ?_
    refine k_X2_get (k := 2) (i := cell) hD (by decide) (show 0 ≤ cell ∧ cell < ((120 : Nat) : Int) from by omega) J hw hl.1 lk_X1_47 ⟨Nat.le_of_ble_eq_true rfl, Nat.le_of_ble_eq_true rfl⟩ (Nat.le_of_ble_eq_true rfl) dX1_room_19 (fun H locs hw => ?_)
    refine j_iload_n J dX1_room_22 rfl (lv_at hl 2 rfl) ?_
    refine j_iadd J dX1_room_23 ?_
    refine j_aload_n J dX1_room_24 rfl (lv_at hl 0 rfl) ?_
    refine xg_1_0 J hw lk_X1_14 dX1_room_25 ?_
    refine j_iload_n J dX1_room_28 rfl (lv_at hl 1 rfl) ?_
    refine k_X2_get (k := 1) (i := cell) hD (by decide) (show 0 ≤ cell ∧ cell < ((120 : Nat) : Int) from by omega) J hw hl.1 lk_X1_47 ⟨Nat.le_of_ble_eq_true rfl, Nat.le_of_ble_eq_true rfl⟩ (Nat.le_of_ble_eq_true rfl) dX1_room_29 (fun H locs hw => ?_)
    refine j_isub J dX1_room_32 ?_
    refine j_max J (by unfold rg; omega) (show rg (((σ 2 cell) + over) - (σ 1 cell)) by unfold rg; omega) hl.1 lk_X1_51 ⟨Nat.le_of_ble_eq_true rfl, Nat.le_of_ble_eq_true rfl, Nat.zero_le _, Nat.zero_le _⟩ dX1_room_33 ?_
    exact fin _ _ _ _ _ _ dX1_room_36 rfl (⟨by first | exact (if_pos (by omega)).symm | exact (if_neg (by omega)).symm, rfl⟩) hw
  · refine j_iconst J (0) dX1_room_11 ?_
    exact fin _ _ _ _ _ _ dX1_room_12 rfl (⟨by first | exact (if_pos (by omega)).symm | exact (if_neg (by omega)).symm, rfl⟩) hw
theorem k_X1_room {p : Program} {l : Launch} {e : Env} {R : Room} {s : State} {m : MethodId} {args : Array Value} {below : List Frame} {meth : Method} {c : Code} {H : Heap} {locs : List Loc} {Q : State → Prop} {cc : ByteArray} {pc : Nat} {ls : Array Slot} {rest : List Value} {nL : Nat} {own : String} {D : va_G} {σ : St} {cI cZ : ClassId} {ad : Nat → Nat} {index : Nat} {cell over : Int} (hD : ∀ τ, va_D (AD ad 45) (wsX cI ad τ)) (hB : Bd σ) (hc : 0 ≤ cell ∧ cell < 120) (ho : 0 ≤ over ∧ over ≤ 50) (J : Jx p m c cc nL s args own D [(cI, .int), (cZ, .boolean)] (AD ad 45) (wsX cI ad)) (hw : jW D (AD ad 45) s.heap (wsX cI ad σ) H locs) (hsz : ls.size = nL) (hlk : Cond.methodLink own index yX1_room ∈ TBw) (hR : 2 ≤ R.frames ∧ 43 ≤ R.locals) (hroom : (rest.map fun v => v.category).sum ≤ 8) (hdg : decode cc pc = .ok (.invokevirtual index, 3)) (kk : ∀ (H1 : Heap) (locs1 : List Loc), jW D (AD ad 45) s.heap (wsX cI ad σ) H1 locs1 → W p l e R s m args below meth c H1 locs1 0 0 Q (F0 m (pc + 3) ls (.int (I (if σ 2 cell = 0 then 0 else max 0 (σ 2 cell + over - σ 1 cell))) :: rest))) : W p l e R s m args below meth c H locs 0 0 Q (F0 m pc ls (.int (I over) :: .int (I cell) :: .ref (ad 1) :: rest)) := 
  j_callVi J hw (c_X1_room  hD hB hc ho) hlk in_X1_room se_X1_room ini_X1 co_X1_room (n := 2) (by decide +kernel) ⟨rfl, rfl, hR.1, hR.2⟩ (j := 1) (ci := 1) rfl rfl rfl rfl hroom hsz ⟨Nat.zero_le _, Nat.zero_le _⟩ rfl hdg (fun r τ H1 locs1 hp hw1 => by obtain ⟨rfl, rfl⟩ := hp; exact kk H1 locs1 hw1)
def rm_X1_unfinished : Room := { frames := 1, cells := 0, slots := 0, locals := 21 }
set_option maxHeartbeats 4000000 in
set_option maxRecDepth 100000 in
theorem c_X1_unfinished {l : Launch} {D : va_G} {cI cZ : ClassId} {ad : Nat → Nat} {σ : St}  (hD : ∀ τ, va_D (AD ad 45) (wsX cI ad τ)) (hB : Bd σ) : JMi l yX1_unfinished cX1_unfinished 3 (some .int) rm_X1_unfinished D [(cI, .int), (cZ, .boolean)] (AD ad 45) (wsX cI ad) [.ref (ad 1)] σ (fun r τ => r = (sumI (fun c => if σ 1 c < σ 2 c then 1 else 0) (σ 18 0 * σ 18 1)) ∧ τ = σ) := by
  refine JMi.of RX1 (by decide +kernel) rfl (Nat.le_of_ble_eq_true rfl) hD ?_
  intro p e s m args below meth c Q J fin H ls hw hl
  generalize ([] : List Loc) = locs at hw ⊢
  have hl : lv_has ls 3 [(0, .ref (ad 1))] := hl
  have hd : Dim _ := hB.dim
  have hd1 := hd.1; have hd2 := hd.2.1; have hd3 := hd.2.2.1; have hd4 := hd.2.2.2; have hm := hd.mul
  refine j_iconst J (0) dX1_unfinished_0 ?_
  refine j_istore_n J (lv' := [(1, .int (I 0)), (0, .ref (ad 1))]) hl dX1_unfinished_1 rfl (by decide) rfl (fun ls hl => ?_)
  refine j_iconst J (0) dX1_unfinished_2 ?_
  refine j_istore_n J (lv' := [(2, .int (I 0)), (1, .int (I 0)), (0, .ref (ad 1))]) hl dX1_unfinished_3 rfl (by decide) rfl (fun ls hl => ?_)
  have L4 : ∀ n : Nat, ∀ (n1 : Int) (i : Int), (0 ≤ i) → (i ≤ σ 18 0 * σ 18 1) → (n1 = sumI (fun c => if σ 1 c < σ 2 c then 1 else 0) i) → ((σ 18 0 * σ 18 1 - i).toNat) < n → ∀ (H : Heap) (locs : List Loc) (ls : Array Slot), jW D (AD ad 45) s.heap (wsX cI ad σ) H locs → lv_has ls 3 [(2, .int (I i)), (0, .ref (ad 1)), (1, .int (I n1))] → W p l e rm_X1_unfinished s m args below meth c H locs 0 0 Q (F0 m 4 ls []) := by
    intro n
    induction n with
    | zero =>
      intro n1 i hi0 hi1 hs hm H locs ls hw hl
      exact absurd hm (Nat.not_lt_zero _)
    | succ n ih =>
      intro n1 i hi0 hi1 hs hm H locs ls hw hl
      have ih4 := ih
      refine j_iload_n J dX1_unfinished_4 rfl (lv_at hl 0 rfl) ?_
      refine j_aload_n J dX1_unfinished_5 rfl (lv_at hl 1 rfl) ?_
      refine k_X1_size  hD  J hw hl.1 lk_X1_39 ⟨Nat.le_of_ble_eq_true rfl, Nat.le_of_ble_eq_true rfl⟩ (Nat.le_of_ble_eq_true rfl) dX1_unfinished_6 (fun H locs hw => ?_)
      refine j_icmp_ge J 40 (show rg i by unfold rg; omega) (show rg (σ 18 0 * σ 18 1) by unfold rg; omega) dX1_unfinished_9 (by decide) (fun (h_1 : (σ 18 0 * σ 18 1) ≤ i) => ?_) (fun (h_1 : i < (σ 18 0 * σ 18 1)) => ?_)
      · refine j_iload_n J dX1_unfinished_40 rfl (lv_at hl 2 rfl) ?_
        exact fin _ _ _ _ _ _ dX1_unfinished_41 rfl (⟨by rw [hs, show i = σ 18 0 * σ 18 1 by omega], rfl⟩) hw
      · refine j_aload_n J dX1_unfinished_12 rfl (lv_at hl 1 rfl) ?_
        refine xg_1_0 J hw lk_X1_14 dX1_unfinished_13 ?_
        refine j_iload_n J dX1_unfinished_16 rfl (lv_at hl 0 rfl) ?_
        refine k_X2_get (k := 1) (i := i) hD (by decide) (show 0 ≤ i ∧ i < ((120 : Nat) : Int) from by omega) J hw hl.1 lk_X1_47 ⟨Nat.le_of_ble_eq_true rfl, Nat.le_of_ble_eq_true rfl⟩ (Nat.le_of_ble_eq_true rfl) dX1_unfinished_17 (fun H locs hw => ?_)
        refine j_aload_n J dX1_unfinished_20 rfl (lv_at hl 1 rfl) ?_
        refine xg_1_1 J hw lk_X1_20 dX1_unfinished_21 ?_
        refine j_iload_n J dX1_unfinished_24 rfl (lv_at hl 0 rfl) ?_
        refine k_X2_get (k := 2) (i := i) hD (by decide) (show 0 ≤ i ∧ i < ((120 : Nat) : Int) from by omega) J hw hl.1 lk_X1_47 ⟨Nat.le_of_ble_eq_true rfl, Nat.le_of_ble_eq_true rfl⟩ (Nat.le_of_ble_eq_true rfl) dX1_unfinished_25 (fun H locs hw => ?_)
        have b1 := hB.depth i; have b2 := hB.design i
        refine j_icmp_ge J 34 (show rg (σ 1 i) by unfold rg; omega) (show rg (σ 2 i) by unfold rg; omega) dX1_unfinished_28 (by decide) (fun (h_2 : (σ 2 i) ≤ (σ 1 i)) => ?_) (fun (h_2 : (σ 1 i) < (σ 2 i)) => ?_)
        · refine j_iinc J (lv' := [(2, .int (I (i + 1))), (0, .ref (ad 1)), (1, .int (I n1))]) (k := 0) hl dX1_unfinished_34 rfl (by decide) rfl (fun ls hl => ?_)
          refine j_goto J 4 dX1_unfinished_37 (by decide) ?_
          exact ih4 n1 (i + 1) (by omega) (by omega) (by have hs9 := sumI_step (f := (fun c => if σ 1 c < σ 2 c then 1 else 0)) hi0; (try dsimp only at hs9); (try split at hs9) <;> omega) (by omega) _ _ _ hw (lv_sub hl [0, 1, 2] rfl)
        · refine j_iinc J (lv' := [(1, .int (I (n1 + 1))), (2, .int (I i)), (0, .ref (ad 1))]) (k := 2) hl dX1_unfinished_31 rfl (by decide) rfl (fun ls hl => ?_)
          refine j_iinc J (lv' := [(2, .int (I (i + 1))), (1, .int (I (n1 + 1))), (0, .ref (ad 1))]) (k := 1) hl dX1_unfinished_34 rfl (by decide) rfl (fun ls hl => ?_)
          refine j_goto J 4 dX1_unfinished_37 (by decide) ?_
          exact ih4 (n1 + 1) (i + 1) (by omega) (by omega) (by have hs9 := sumI_step (f := (fun c => if σ 1 c < σ 2 c then 1 else 0)) hi0; (try dsimp only at hs9); (try split at hs9) <;> omega) (by omega) _ _ _ hw (lv_sub hl [0, 2, 1] rfl)
  exact L4 _ 0 0 (by omega) (by omega) (sumI_0.symm) (Nat.lt_succ_self _) _ _ _ hw (lv_sub hl [0, 2, 1] rfl)
theorem k_X1_unfinished {p : Program} {l : Launch} {e : Env} {R : Room} {s : State} {m : MethodId} {args : Array Value} {below : List Frame} {meth : Method} {c : Code} {H : Heap} {locs : List Loc} {Q : State → Prop} {cc : ByteArray} {pc : Nat} {ls : Array Slot} {rest : List Value} {nL : Nat} {own : String} {D : va_G} {σ : St} {cI cZ : ClassId} {ad : Nat → Nat} {index : Nat}  (hD : ∀ τ, va_D (AD ad 45) (wsX cI ad τ)) (hB : Bd σ) (J : Jx p m c cc nL s args own D [(cI, .int), (cZ, .boolean)] (AD ad 45) (wsX cI ad)) (hw : jW D (AD ad 45) s.heap (wsX cI ad σ) H locs) (hsz : ls.size = nL) (hlk : Cond.methodLink own index yX1_unfinished ∈ TBw) (hR : 2 ≤ R.frames ∧ 43 ≤ R.locals) (hroom : (rest.map fun v => v.category).sum ≤ 8) (hdg : decode cc pc = .ok (.invokevirtual index, 3)) (kk : ∀ (H1 : Heap) (locs1 : List Loc), jW D (AD ad 45) s.heap (wsX cI ad σ) H1 locs1 → W p l e R s m args below meth c H1 locs1 0 0 Q (F0 m (pc + 3) ls (.int (I (sumI (fun c => if σ 1 c < σ 2 c then 1 else 0) (σ 18 0 * σ 18 1))) :: rest))) : W p l e R s m args below meth c H locs 0 0 Q (F0 m pc ls (.ref (ad 1) :: rest)) := 
  j_callVi J hw (c_X1_unfinished  hD hB) hlk in_X1_unfinished se_X1_unfinished ini_X1 co_X1_unfinished (n := 0) (by decide +kernel) ⟨rfl, rfl, hR.1, hR.2⟩ (j := 1) (ci := 1) rfl rfl rfl rfl hroom hsz ⟨Nat.zero_le _, Nat.zero_le _⟩ rfl hdg (fun r τ H1 locs1 hp hw1 => by obtain ⟨rfl, rfl⟩ := hp; exact kk H1 locs1 hw1)
def rm_X1_raise : Room := { frames := 1, cells := 0, slots := 0, locals := 23 }
set_option maxHeartbeats 4000000 in
set_option maxRecDepth 100000 in
theorem c_X1_raise {l : Launch} {D : va_G} {cI cZ : ClassId} {ad : Nat → Nat} {σ : St} {cell by1 : Int} (hD : ∀ τ, va_D (AD ad 45) (wsX cI ad τ)) (hc : 0 ≤ cell ∧ cell < 120) (hb1 : 0 ≤ by1 ∧ by1 ≤ 1000000) (hb2 : 0 ≤ σ 1 cell ∧ σ 1 cell ≤ 400) : JMv l yX1_raise cX1_raise 3 rm_X1_raise D [(cI, .int), (cZ, .boolean)] (AD ad 45) (wsX cI ad) [.ref (ad 1), .int (I cell), .int (I by1)] σ (fun τ => τ = st σ 1 cell (max 0 (σ 1 cell - by1))) := by
  refine JMv.of RX1 (by decide +kernel) rfl (Nat.le_of_ble_eq_true rfl) hD ?_
  intro p e s m args below meth c Q J fin H ls hw hl
  generalize ([] : List Loc) = locs at hw ⊢
  have hl : lv_has ls 3 [(0, .ref (ad 1)), (1, .int (I cell)), (2, .int (I by1))] := hl
  refine j_aload_n J dX1_raise_0 rfl (lv_at hl 0 rfl) ?_
  refine xg_1_0 J hw lk_X1_14 dX1_raise_1 ?_
  refine j_iload_n J dX1_raise_4 rfl (lv_at hl 1 rfl) ?_
  refine j_iconst J (0) dX1_raise_5 ?_
  refine j_aload_n J dX1_raise_6 rfl (lv_at hl 0 rfl) ?_
  refine xg_1_0 J hw lk_X1_14 dX1_raise_7 ?_
  refine j_iload_n J dX1_raise_10 rfl (lv_at hl 1 rfl) ?_
  refine k_X2_get (k := 1) (i := cell) hD (by decide) (show 0 ≤ cell ∧ cell < ((120 : Nat) : Int) from by omega) J hw hl.1 lk_X1_47 ⟨Nat.le_of_ble_eq_true rfl, Nat.le_of_ble_eq_true rfl⟩ (Nat.le_of_ble_eq_true rfl) dX1_raise_11 (fun H locs hw => ?_)
  refine j_iload_n J dX1_raise_14 rfl (lv_at hl 2 rfl) ?_
  refine j_isub J dX1_raise_15 ?_
  refine j_max J (by unfold rg; omega) (show rg ((σ 1 cell) - by1) by unfold rg; omega) hl.1 lk_X1_51 ⟨Nat.le_of_ble_eq_true rfl, Nat.le_of_ble_eq_true rfl, Nat.zero_le _, Nat.zero_le _⟩ dX1_raise_16 ?_
  refine k_X2_put (k := 1) (i := cell) (v := max 0 ((σ 1 cell) - by1)) hD (by decide) (show 0 ≤ cell ∧ cell < ((120 : Nat) : Int) from by omega) J hw hl.1 lk_X1_57 ⟨Nat.le_of_ble_eq_true rfl, Nat.le_of_ble_eq_true rfl⟩ (Nat.le_of_ble_eq_true rfl) dX1_raise_19 (fun H locs hw => ?_)
  refine j_pop J dX1_raise_22 rfl ?_
  exact fin _ _ _ _ _ dX1_raise_23 (rfl) hw
theorem k_X1_raise {p : Program} {l : Launch} {e : Env} {R : Room} {s : State} {m : MethodId} {args : Array Value} {below : List Frame} {meth : Method} {c : Code} {H : Heap} {locs : List Loc} {Q : State → Prop} {cc : ByteArray} {pc : Nat} {ls : Array Slot} {rest : List Value} {nL : Nat} {own : String} {D : va_G} {σ : St} {cI cZ : ClassId} {ad : Nat → Nat} {index : Nat} {cell by1 : Int} (hD : ∀ τ, va_D (AD ad 45) (wsX cI ad τ)) (hc : 0 ≤ cell ∧ cell < 120) (hb1 : 0 ≤ by1 ∧ by1 ≤ 1000000) (hb2 : 0 ≤ σ 1 cell ∧ σ 1 cell ≤ 400) (J : Jx p m c cc nL s args own D [(cI, .int), (cZ, .boolean)] (AD ad 45) (wsX cI ad)) (hw : jW D (AD ad 45) s.heap (wsX cI ad σ) H locs) (hsz : ls.size = nL) (hlk : Cond.methodLink own index yX1_raise ∈ TBw) (hR : 2 ≤ R.frames ∧ 45 ≤ R.locals) (hroom : (rest.map fun v => v.category).sum ≤ 8) (hdg : decode cc pc = .ok (.invokevirtual index, 3)) (kk : ∀ (H1 : Heap) (locs1 : List Loc), jW D (AD ad 45) s.heap (wsX cI ad (st σ 1 cell (max 0 (σ 1 cell - by1)))) H1 locs1 → W p l e R s m args below meth c H1 locs1 0 0 Q (F0 m (pc + 3) ls rest)) : W p l e R s m args below meth c H locs 0 0 Q (F0 m pc ls (.int (I by1) :: .int (I cell) :: .ref (ad 1) :: rest)) := 
  j_callVv J hw (c_X1_raise  hD hc hb1 hb2) hlk in_X1_raise se_X1_raise ini_X1 co_X1_raise (n := 2) (by decide +kernel) ⟨rfl, rfl, hR.1, hR.2⟩ (j := 1) (ci := 1) rfl rfl rfl rfl hroom hsz ⟨Nat.zero_le _, Nat.zero_le _⟩ rfl hdg (fun τ H1 locs1 hp hw1 => by subst hp; exact kk H1 locs1 hw1)
def rm_X1_start : Room := { frames := 1, cells := 0, slots := 0, locals := 22 }
set_option maxHeartbeats 4000000 in
set_option maxRecDepth 100000 in
theorem c_X1_start {l : Launch} {D : va_G} {cI cZ : ClassId} {ad : Nat → Nat} {σ : St} {c1 r1 : Int} (hD : ∀ τ, va_D (AD ad 45) (wsX cI ad τ))  : JMv l yX1_start cX1_start 3 rm_X1_start D [(cI, .int), (cZ, .boolean)] (AD ad 45) (wsX cI ad) [.ref (ad 1), .int (I c1), .int (I r1)] σ (fun τ => τ = fl (fl (st (st (st σ 18 0 c1) 18 1 r1) 18 2 0) 1 0 120) 2 0 120) := by
  refine JMv.of RX1 (by decide +kernel) rfl (Nat.le_of_ble_eq_true rfl) hD ?_
  intro p e s m args below meth c Q J fin H ls hw hl
  generalize ([] : List Loc) = locs at hw ⊢
  have hl : lv_has ls 3 [(0, .ref (ad 1)), (1, .int (I c1)), (2, .int (I r1))] := hl
  refine j_aload_n J dX1_start_0 rfl (lv_at hl 0 rfl) ?_
  refine j_iload_n J dX1_start_1 rfl (lv_at hl 1 rfl) ?_
  refine xs_1_3 J hw lk_X1_26 dX1_start_2 (fun H locs hw => ?_)
  refine j_aload_n J dX1_start_5 rfl (lv_at hl 0 rfl) ?_
  refine j_iload_n J dX1_start_6 rfl (lv_at hl 2 rfl) ?_
  refine xs_1_4 J hw lk_X1_30 dX1_start_7 (fun H locs hw => ?_)
  refine j_aload_n J dX1_start_10 rfl (lv_at hl 0 rfl) ?_
  refine j_iconst J (0) dX1_start_11 ?_
  refine xs_1_5 J hw lk_X1_33 dX1_start_12 (fun H locs hw => ?_)
  refine j_aload_n J dX1_start_15 rfl (lv_at hl 0 rfl) ?_
  refine xg_1_0 J hw lk_X1_14 dX1_start_16 ?_
  refine j_iconst J (0) dX1_start_19 ?_
  refine k_X2_fill (k := 1) (v := 0) hD (by decide) J hw hl.1 lk_X1_36 ⟨Nat.le_of_ble_eq_true rfl, Nat.le_of_ble_eq_true rfl⟩ (Nat.le_of_ble_eq_true rfl) dX1_start_20 (fun H locs hw => ?_)
  refine j_aload_n J dX1_start_23 rfl (lv_at hl 0 rfl) ?_
  refine xg_1_1 J hw lk_X1_20 dX1_start_24 ?_
  refine j_iconst J (0) dX1_start_27 ?_
  refine k_X2_fill (k := 2) (v := 0) hD (by decide) J hw hl.1 lk_X1_36 ⟨Nat.le_of_ble_eq_true rfl, Nat.le_of_ble_eq_true rfl⟩ (Nat.le_of_ble_eq_true rfl) dX1_start_28 (fun H locs hw => ?_)
  exact fin _ _ _ _ _ dX1_start_31 (rfl) hw
theorem k_X1_start {p : Program} {l : Launch} {e : Env} {R : Room} {s : State} {m : MethodId} {args : Array Value} {below : List Frame} {meth : Method} {c : Code} {H : Heap} {locs : List Loc} {Q : State → Prop} {cc : ByteArray} {pc : Nat} {ls : Array Slot} {rest : List Value} {nL : Nat} {own : String} {D : va_G} {σ : St} {cI cZ : ClassId} {ad : Nat → Nat} {index : Nat} {c1 r1 : Int} (hD : ∀ τ, va_D (AD ad 45) (wsX cI ad τ))  (J : Jx p m c cc nL s args own D [(cI, .int), (cZ, .boolean)] (AD ad 45) (wsX cI ad)) (hw : jW D (AD ad 45) s.heap (wsX cI ad σ) H locs) (hsz : ls.size = nL) (hlk : Cond.methodLink own index yX1_start ∈ TBw) (hR : 2 ≤ R.frames ∧ 44 ≤ R.locals) (hroom : (rest.map fun v => v.category).sum ≤ 8) (hdg : decode cc pc = .ok (.invokevirtual index, 3)) (kk : ∀ (H1 : Heap) (locs1 : List Loc), jW D (AD ad 45) s.heap (wsX cI ad (fl (fl (st (st (st σ 18 0 c1) 18 1 r1) 18 2 0) 1 0 120) 2 0 120)) H1 locs1 → W p l e R s m args below meth c H1 locs1 0 0 Q (F0 m (pc + 3) ls rest)) : W p l e R s m args below meth c H locs 0 0 Q (F0 m pc ls (.int (I r1) :: .int (I c1) :: .ref (ad 1) :: rest)) := 
  j_callVv J hw (c_X1_start  hD ) hlk in_X1_start se_X1_start ini_X1 co_X1_start (n := 2) (by decide +kernel) ⟨rfl, rfl, hR.1, hR.2⟩ (j := 1) (ci := 1) rfl rfl rfl rfl hroom hsz ⟨Nat.zero_le _, Nat.zero_le _⟩ rfl hdg (fun τ H1 locs1 hp hw1 => by subst hp; exact kk H1 locs1 hw1)
def rm_X8_firstEnough : Room := { frames := 1, cells := 0, slots := 0, locals := 21 }
set_option maxHeartbeats 4000000 in
set_option maxRecDepth 100000 in
theorem c_X8_firstEnough {l : Launch} {D : va_G} {cI cZ : ClassId} {ad : Nat → Nat} {σ : St} {a h : Int} (hD : ∀ τ, va_D (AD ad 45) (wsX cI ad τ)) (hB : Bd σ) (ha : 0 ≤ a ∧ a ≤ 10000) (hh : -1000 ≤ h ∧ h ≤ 1000) : JMi l yX8_firstEnough cX8_firstEnough 4 (some .int) rm_X8_firstEnough D [(cI, .int), (cZ, .boolean)] (AD ad 45) (wsX cI ad) [.ref (ad 3), .int (I a), .int (I h)] σ (fun r τ => r = (feN σ h 12 a) ∧ τ = σ) := by
  refine JMi.of RX8 (by decide +kernel) rfl (Nat.le_of_ble_eq_true rfl) hD ?_
  intro p e s m args below meth c Q J fin H ls hw hl
  generalize ([] : List Loc) = locs at hw ⊢
  have hl : lv_has ls 4 [(0, .ref (ad 3)), (1, .int (I a)), (2, .int (I h))] := hl
  refine j_iload_n J dX8_firstEnough_0 rfl (lv_at hl 1 rfl) ?_
  refine j_istore_n J (lv' := [(3, .int (I a)), (0, .ref (ad 3)), (1, .int (I a)), (2, .int (I h))]) hl dX8_firstEnough_1 rfl (by decide) rfl (fun ls hl => ?_)
  have L2 : ∀ n : Nat, ∀ (x : Int), (a ≤ x ∧ x ≤ a + 12) → (feN σ h 12 a = feN σ h (a + 12 - x).toNat x) → ((a + 12 - x).toNat) < n → ∀ (H : Heap) (locs : List Loc) (ls : Array Slot), jW D (AD ad 45) s.heap (wsX cI ad σ) H locs → lv_has ls 4 [(3, .int (I x)), (0, .ref (ad 3)), (1, .int (I a)), (2, .int (I h))] → W p l e rm_X8_firstEnough s m args below meth c H locs 0 0 Q (F0 m 2 ls []) := by
    intro n
    induction n with
    | zero =>
      intro x hx hfe hm H locs ls hw hl
      exact absurd hm (Nat.not_lt_zero _)
    | succ n ih =>
      intro x hx hfe hm H locs ls hw hl
      have ih2 := ih
      refine j_iload_n J dX8_firstEnough_2 rfl (lv_at hl 0 rfl) ?_
      refine j_iload_n J dX8_firstEnough_3 rfl (lv_at hl 2 rfl) ?_
      refine j_bipush J (12) dX8_firstEnough_4 (by decide) ?_
      refine j_iadd J dX8_firstEnough_6 ?_
      refine j_icmp_ge J 33 (show rg x by unfold rg; omega) (show rg (a + 12) by unfold rg; omega) dX8_firstEnough_7 (by decide) (fun (h_1 : (a + 12) ≤ x) => ?_) (fun (h_1 : x < (a + 12)) => ?_)
      · refine j_iconst J (-1) dX8_firstEnough_33 ?_
        exact fin _ _ _ _ _ _ dX8_firstEnough_34 rfl (⟨by rw [hfe, show (a + 12 - x).toNat = 0 by omega]; rfl, rfl⟩) hw
      · refine j_aload_n J dX8_firstEnough_10 rfl (lv_at hl 1 rfl) ?_
        refine xg_8_0 J hw lk_X8_14 dX8_firstEnough_11 ?_
        refine j_iload_n J dX8_firstEnough_14 rfl (lv_at hl 0 rfl) ?_
        refine j_bipush J (12) dX8_firstEnough_15 (by decide) ?_
        refine j_irem J (show 0 ≤ x ∧ x < 2147483648 ∧ 0 < 12 ∧ 12 < 2147483648 from by omega) dX8_firstEnough_17 ?_
        refine k_X2_get (k := 7) (i := x % 12) hD (by decide) (show 0 ≤ x % 12 ∧ (x % 12) < ((12 : Nat) : Int) from by omega) J hw hl.1 lk_X8_20 ⟨Nat.le_of_ble_eq_true rfl, Nat.le_of_ble_eq_true rfl⟩ (Nat.le_of_ble_eq_true rfl) dX8_firstEnough_18 (fun H locs hw => ?_)
        refine j_iload_n J dX8_firstEnough_21 rfl (lv_at hl 3 rfl) ?_
        have b1 := hB.tide (x % 12)
        refine j_icmp_lt J 27 (show rg (σ 7 (x % 12)) by unfold rg; omega) (show rg h by unfold rg; omega) dX8_firstEnough_22 (by decide) (fun (h_2 : (σ 7 (x % 12)) < h) => ?_) (fun (h_2 : h ≤ (σ 7 (x % 12))) => ?_)
        · refine j_iinc J (lv' := [(3, .int (I (x + 1))), (0, .ref (ad 3)), (1, .int (I a)), (2, .int (I h))]) (k := 0) hl dX8_firstEnough_27 rfl (by decide) rfl (fun ls hl => ?_)
          refine j_goto J 2 dX8_firstEnough_30 (by decide) ?_
          exact ih2 (x + 1) (by omega) (by rw [hfe, feN_step (by omega) (by omega)]; exact congrArg (fun z => feN σ h z (x + 1)) (by omega)) (by omega) _ _ _ hw (lv_sub hl [0, 1, 2, 3] rfl)
        · refine j_iload_n J dX8_firstEnough_25 rfl (lv_at hl 0 rfl) ?_
          exact fin _ _ _ _ _ _ dX8_firstEnough_26 rfl (⟨by rw [hfe, feN_hit (by omega) (by omega)], rfl⟩) hw
  exact L2 _ a (by omega) (by rw [show (a + 12 - a).toNat = 12 by omega]) (Nat.lt_succ_self _) _ _ _ hw (lv_sub hl [0, 1, 2, 3] rfl)
theorem k_X8_firstEnough {p : Program} {l : Launch} {e : Env} {R : Room} {s : State} {m : MethodId} {args : Array Value} {below : List Frame} {meth : Method} {c : Code} {H : Heap} {locs : List Loc} {Q : State → Prop} {cc : ByteArray} {pc : Nat} {ls : Array Slot} {rest : List Value} {nL : Nat} {own : String} {D : va_G} {σ : St} {cI cZ : ClassId} {ad : Nat → Nat} {index : Nat} {a h : Int} (hD : ∀ τ, va_D (AD ad 45) (wsX cI ad τ)) (hB : Bd σ) (ha : 0 ≤ a ∧ a ≤ 10000) (hh : -1000 ≤ h ∧ h ≤ 1000) (J : Jx p m c cc nL s args own D [(cI, .int), (cZ, .boolean)] (AD ad 45) (wsX cI ad)) (hw : jW D (AD ad 45) s.heap (wsX cI ad σ) H locs) (hsz : ls.size = nL) (hlk : Cond.methodLink own index yX8_firstEnough ∈ TBw) (hR : 2 ≤ R.frames ∧ 44 ≤ R.locals) (hroom : (rest.map fun v => v.category).sum ≤ 8) (hdg : decode cc pc = .ok (.invokevirtual index, 3)) (kk : ∀ (H1 : Heap) (locs1 : List Loc), jW D (AD ad 45) s.heap (wsX cI ad σ) H1 locs1 → W p l e R s m args below meth c H1 locs1 0 0 Q (F0 m (pc + 3) ls (.int (I (feN σ h 12 a)) :: rest))) : W p l e R s m args below meth c H locs 0 0 Q (F0 m pc ls (.int (I h) :: .int (I a) :: .ref (ad 3) :: rest)) := 
  j_callVi J hw (c_X8_firstEnough  hD hB ha hh) hlk in_X8_firstEnough se_X8_firstEnough ini_X8 co_X8_firstEnough (n := 2) (by decide +kernel) ⟨rfl, rfl, hR.1, hR.2⟩ (j := 3) (ci := 8) rfl rfl rfl rfl hroom hsz ⟨Nat.zero_le _, Nat.zero_le _⟩ rfl hdg (fun r τ H1 locs1 hp hw1 => by obtain ⟨rfl, rfl⟩ := hp; exact kk H1 locs1 hw1)
def rm_X6_start : Room := { frames := 1, cells := 0, slots := 0, locals := 23 }
set_option maxHeartbeats 4000000 in
set_option maxRecDepth 100000 in
theorem c_X6_start {l : Launch} {D : va_G} {cI cZ : ClassId} {ad : Nat → Nat} {σ : St}  (hD : ∀ τ, va_D (AD ad 45) (wsX cI ad τ))  : JMv l yX6_start cX6_start 2 rm_X6_start D [(cI, .int), (cZ, .boolean)] (AD ad 45) (wsX cI ad) [.ref (ad 4)] σ (fun τ => τ = tbS σ 31) := by
  refine JMv.of RX6 (by decide +kernel) rfl (Nat.le_of_ble_eq_true rfl) hD ?_
  intro p e s m args below meth c Q J fin H ls hw hl
  generalize ([] : List Loc) = locs at hw ⊢
  have hl : lv_has ls 2 [(0, .ref (ad 4))] := hl
  refine j_iconst J (0) dX6_start_0 ?_
  refine j_istore_n J (lv' := [(1, .int (I 0)), (0, .ref (ad 4))]) hl dX6_start_1 rfl (by decide) rfl (fun ls hl => ?_)
  have L2 : ∀ n : Nat, ∀ (i : Int), (0 ≤ i ∧ i ≤ 31) → ((31 - i).toNat) < n → ∀ (H : Heap) (locs : List Loc) (ls : Array Slot), jW D (AD ad 45) s.heap (wsX cI ad (tbS σ i)) H locs → lv_has ls 2 [(1, .int (I i)), (0, .ref (ad 4))] → W p l e rm_X6_start s m args below meth c H locs 0 0 Q (F0 m 2 ls []) := by
    intro n
    induction n with
    | zero =>
      intro i hi0 hm H locs ls hw hl
      exact absurd hm (Nat.not_lt_zero _)
    | succ n ih =>
      intro i hi0 hm H locs ls hw hl
      have ih2 := ih
      refine j_iload_n J dX6_start_2 rfl (lv_at hl 0 rfl) ?_
      refine j_bipush J (30) dX6_start_3 (by decide) ?_
      refine j_icmp_gt J 24 (show rg i by unfold rg; omega) (by unfold rg; omega) dX6_start_5 (by decide) (fun (h_1 : 30 < i) => ?_) (fun (h_1 : i ≤ 30) => ?_)
      · exact fin _ _ _ _ _ dX6_start_24 (by rw [show i = 31 by omega]) hw
      · refine j_aload_n J dX6_start_8 rfl (lv_at hl 1 rfl) ?_
        refine xg_6_0 J hw lk_X6_14 dX6_start_9 ?_
        refine j_iload_n J dX6_start_12 rfl (lv_at hl 0 rfl) ?_
        refine j_iload_n J dX6_start_13 rfl (lv_at hl 0 rfl) ?_
        refine k_X2_put (k := 8) (i := i) (v := i) hD (by decide) (show 0 ≤ i ∧ i < ((31 : Nat) : Int) from by omega) J hw hl.1 lk_X6_20 ⟨Nat.le_of_ble_eq_true rfl, Nat.le_of_ble_eq_true rfl⟩ (Nat.le_of_ble_eq_true rfl) dX6_start_14 (fun H locs hw => ?_)
        refine j_pop J dX6_start_17 rfl ?_
        refine j_iinc J (lv' := [(1, .int (I (i + 1))), (0, .ref (ad 4))]) (k := 0) hl dX6_start_18 rfl (by decide) rfl (fun ls hl => ?_)
        refine j_goto J 2 dX6_start_21 (by decide) ?_
        exact ih2 (i + 1) (by omega) (by omega) _ _ _ (by rw [← tbS_step hi0.1]; exact hw) (lv_sub hl [0, 1] rfl)
  exact L2 _ 0 (by omega) (Nat.lt_succ_self _) _ _ _ (by rw [tbS_0]; exact hw) (lv_sub hl [0, 1] rfl)
theorem k_X6_start {p : Program} {l : Launch} {e : Env} {R : Room} {s : State} {m : MethodId} {args : Array Value} {below : List Frame} {meth : Method} {c : Code} {H : Heap} {locs : List Loc} {Q : State → Prop} {cc : ByteArray} {pc : Nat} {ls : Array Slot} {rest : List Value} {nL : Nat} {own : String} {D : va_G} {σ : St} {cI cZ : ClassId} {ad : Nat → Nat} {index : Nat}  (hD : ∀ τ, va_D (AD ad 45) (wsX cI ad τ))  (J : Jx p m c cc nL s args own D [(cI, .int), (cZ, .boolean)] (AD ad 45) (wsX cI ad)) (hw : jW D (AD ad 45) s.heap (wsX cI ad σ) H locs) (hsz : ls.size = nL) (hlk : Cond.methodLink own index yX6_start ∈ TBw) (hR : 2 ≤ R.frames ∧ 44 ≤ R.locals) (hroom : (rest.map fun v => v.category).sum ≤ 8) (hdg : decode cc pc = .ok (.invokevirtual index, 3)) (kk : ∀ (H1 : Heap) (locs1 : List Loc), jW D (AD ad 45) s.heap (wsX cI ad (tbS σ 31)) H1 locs1 → W p l e R s m args below meth c H1 locs1 0 0 Q (F0 m (pc + 3) ls rest)) : W p l e R s m args below meth c H locs 0 0 Q (F0 m pc ls (.ref (ad 4) :: rest)) := 
  j_callVv J hw (c_X6_start  hD ) hlk in_X6_start se_X6_start ini_X6 co_X6_start (n := 0) (by decide +kernel) ⟨rfl, rfl, hR.1, hR.2⟩ (j := 4) (ci := 6) rfl rfl rfl rfl hroom hsz ⟨Nat.zero_le _, Nat.zero_le _⟩ rfl hdg (fun τ H1 locs1 hp hw1 => by subst hp; exact kk H1 locs1 hw1)
def rm_X6_setTable : Room := { frames := 1, cells := 0, slots := 0, locals := 23 }
set_option maxHeartbeats 4000000 in
set_option maxRecDepth 100000 in
theorem c_X6_setTable {l : Launch} {D : va_G} {cI cZ : ClassId} {ad : Nat → Nat} {σ : St} {t v : Int} (hD : ∀ τ, va_D (AD ad 45) (wsX cI ad τ)) (hB : Bd σ) (ht : 1 ≤ t ∧ t ≤ 30) (hv : 0 ≤ v ∧ v ≤ 200) : JMi l yX6_setTable cX6_setTable 5 (some .int) rm_X6_setTable D [(cI, .int), (cZ, .boolean)] (AD ad 45) (wsX cI ad) [.ref (ad 4), .int (I t), .int (I v)] σ (fun r τ => r = (σ 8 t) ∧ τ = hdS σ t v t 1 31) := by
  refine JMi.of RX6 (by decide +kernel) rfl (Nat.le_of_ble_eq_true rfl) hD ?_
  intro p e s m args below meth c Q J fin H ls hw hl
  generalize ([] : List Loc) = locs at hw ⊢
  have hl : lv_has ls 5 [(0, .ref (ad 4)), (1, .int (I t)), (2, .int (I v))] := hl
  refine j_aload_n J dX6_setTable_0 rfl (lv_at hl 0 rfl) ?_
  refine xg_6_0 J hw lk_X6_14 dX6_setTable_1 ?_
  refine j_iload_n J dX6_setTable_4 rfl (lv_at hl 1 rfl) ?_
  refine k_X2_get (k := 8) (i := t) hD (by decide) (show 0 ≤ t ∧ t < ((31 : Nat) : Int) from by omega) J hw hl.1 lk_X6_24 ⟨Nat.le_of_ble_eq_true rfl, Nat.le_of_ble_eq_true rfl⟩ (Nat.le_of_ble_eq_true rfl) dX6_setTable_5 (fun H locs hw => ?_)
  refine j_istore_n J (lv' := [(3, .int (I (σ 8 t))), (0, .ref (ad 4)), (1, .int (I t)), (2, .int (I v))]) hl dX6_setTable_8 rfl (by decide) rfl (fun ls hl => ?_)
  refine j_iconst J (1) dX6_setTable_9 ?_
  refine j_istore J (lv' := [(4, .int (I 1)), (3, .int (I (σ 8 t))), (0, .ref (ad 4)), (1, .int (I t)), (2, .int (I v))]) hl dX6_setTable_10 (by decide) rfl (fun ls hl => ?_)
  have L12 : ∀ n : Nat, ∀ (i : Int), (1 ≤ i ∧ i ≤ t) → ((t - i).toNat) < n → ∀ (H : Heap) (locs : List Loc) (ls : Array Slot), jW D (AD ad 45) s.heap (wsX cI ad (hdS σ t v i 0 (t + 1))) H locs → lv_has ls 5 [(4, .int (I i)), (0, .ref (ad 4)), (1, .int (I t)), (2, .int (I v)), (3, .int (I (σ 8 t)))] → W p l e rm_X6_setTable s m args below meth c H locs 0 0 Q (F0 m 12 ls []) := by
    intro n
    induction n with
    | zero =>
      intro i hi0 hm H locs ls hw hl
      exact absurd hm (Nat.not_lt_zero _)
    | succ n ih =>
      intro i hi0 hm H locs ls hw hl
      have ih12 := ih
      refine j_iload J dX6_setTable_12 (lv_at hl 0 rfl) ?_
      refine j_iload_n J dX6_setTable_14 rfl (lv_at hl 2 rfl) ?_
      refine j_icmp_ge J 47 (show rg i by unfold rg; omega) (show rg t by unfold rg; omega) dX6_setTable_15 (by decide) (fun (h_1 : t ≤ i) => ?_) (fun (h_1 : i < t) => ?_)
      · refine j_aload_n J dX6_setTable_47 rfl (lv_at hl 1 rfl) ?_
        refine xg_6_0 J hw lk_X6_14 dX6_setTable_48 ?_
        refine j_iload_n J dX6_setTable_51 rfl (lv_at hl 2 rfl) ?_
        refine j_iload_n J dX6_setTable_52 rfl (lv_at hl 3 rfl) ?_
        refine k_X2_put (k := 8) (i := t) (v := v) hD (by decide) (show 0 ≤ t ∧ t < ((31 : Nat) : Int) from by omega) J hw hl.1 lk_X6_20 ⟨Nat.le_of_ble_eq_true rfl, Nat.le_of_ble_eq_true rfl⟩ (Nat.le_of_ble_eq_true rfl) dX6_setTable_53 (fun H locs hw => ?_)
        refine j_pop J dX6_setTable_56 rfl ?_
        refine j_iload_n J dX6_setTable_57 rfl (lv_at hl 2 rfl) ?_
        refine j_iconst J (1) dX6_setTable_58 ?_
        refine j_iadd J dX6_setTable_59 ?_
        refine j_istore J (lv' := [(4, .int (I (t + 1))), (0, .ref (ad 4)), (1, .int (I t)), (2, .int (I v)), (3, .int (I (σ 8 t)))]) hl dX6_setTable_60 (by decide) rfl (fun ls hl => ?_)
        have L62 : ∀ n : Nat, ∀ (i2 : Int), (t + 1 ≤ i2 ∧ i2 ≤ 31) → ((31 - i2).toNat) < n → ∀ (H : Heap) (locs : List Loc) (ls : Array Slot), jW D (AD ad 45) s.heap (wsX cI ad (hdS σ t v t 1 i2)) H locs → lv_has ls 5 [(4, .int (I i2)), (0, .ref (ad 4)), (1, .int (I t)), (2, .int (I v)), (3, .int (I (σ 8 t)))] → W p l e rm_X6_setTable s m args below meth c H locs 0 0 Q (F0 m 62 ls []) := by
          intro n
          induction n with
          | zero =>
            intro i2 hi2 hm H locs ls hw hl
            exact absurd hm (Nat.not_lt_zero _)
          | succ n ih =>
            intro i2 hi2 hm H locs ls hw hl
            have ih62 := ih
            refine j_iload J dX6_setTable_62 (lv_at hl 0 rfl) ?_
            refine j_bipush J (30) dX6_setTable_64 (by decide) ?_
            refine j_icmp_gt J 98 (show rg i2 by unfold rg; omega) (by unfold rg; omega) dX6_setTable_66 (by decide) (fun (h_2 : 30 < i2) => ?_) (fun (h_2 : i2 ≤ 30) => ?_)
            · refine j_iload_n J dX6_setTable_98 rfl (lv_at hl 4 rfl) ?_
              exact fin _ _ _ _ _ _ dX6_setTable_99 rfl (⟨rfl, by rw [show i2 = 31 by omega]⟩) hw
            · refine j_aload_n J dX6_setTable_69 rfl (lv_at hl 1 rfl) ?_
              refine xg_6_0 J hw lk_X6_14 dX6_setTable_70 ?_
              refine j_iload J dX6_setTable_73 (lv_at hl 0 rfl) ?_
              refine j_iload_n J dX6_setTable_75 rfl (lv_at hl 3 rfl) ?_
              refine j_aload_n J dX6_setTable_76 rfl (lv_at hl 1 rfl) ?_
              refine xg_6_0 J hw lk_X6_14 dX6_setTable_77 ?_
              refine j_iload J dX6_setTable_80 (lv_at hl 0 rfl) ?_
              refine k_X2_get (k := 8) (i := i2) hD (by decide) (show 0 ≤ i2 ∧ i2 < ((31 : Nat) : Int) from by omega) J hw hl.1 lk_X6_24 ⟨Nat.le_of_ble_eq_true rfl, Nat.le_of_ble_eq_true rfl⟩ (Nat.le_of_ble_eq_true rfl) dX6_setTable_82 (fun H locs hw => ?_)
              have b1 := hB.table i2; rw [show hdS σ t v t 1 i2 8 i2 = σ 8 i2 from hdS_at2 (by omega)]
              refine j_max J (show rg v by unfold rg; omega) (show rg (σ 8 i2) by unfold rg; omega) hl.1 lk_X6_33 ⟨Nat.le_of_ble_eq_true rfl, Nat.le_of_ble_eq_true rfl, Nat.zero_le _, Nat.zero_le _⟩ dX6_setTable_85 ?_
              refine k_X2_put (k := 8) (i := i2) (v := max v (σ 8 i2)) hD (by decide) (show 0 ≤ i2 ∧ i2 < ((31 : Nat) : Int) from by omega) J hw hl.1 lk_X6_20 ⟨Nat.le_of_ble_eq_true rfl, Nat.le_of_ble_eq_true rfl⟩ (Nat.le_of_ble_eq_true rfl) dX6_setTable_88 (fun H locs hw => ?_)
              refine j_pop J dX6_setTable_91 rfl ?_
              refine j_iinc J (lv' := [(4, .int (I (i2 + 1))), (0, .ref (ad 4)), (1, .int (I t)), (2, .int (I v)), (3, .int (I (σ 8 t)))]) (k := 0) hl dX6_setTable_92 rfl (by decide) rfl (fun ls hl => ?_)
              refine j_goto J 62 dX6_setTable_95 (by decide) ?_
              exact ih62 (i2 + 1) (by omega) (by omega) _ _ _ (by rw [← hdS_hi hi2.1]; exact hw) (lv_sub hl [0, 1, 2, 3, 4] rfl)
        have e9 : i = t := by omega
        rw [e9] at hw
        exact L62 _ (t + 1) (by omega) (Nat.lt_succ_self _) _ _ _ (by rw [← hdS_mid (by omega)]; exact hw) (lv_sub hl [0, 1, 2, 3, 4] rfl)
      · refine j_aload_n J dX6_setTable_18 rfl (lv_at hl 1 rfl) ?_
        refine xg_6_0 J hw lk_X6_14 dX6_setTable_19 ?_
        refine j_iload J dX6_setTable_22 (lv_at hl 0 rfl) ?_
        refine j_iload_n J dX6_setTable_24 rfl (lv_at hl 3 rfl) ?_
        refine j_aload_n J dX6_setTable_25 rfl (lv_at hl 1 rfl) ?_
        refine xg_6_0 J hw lk_X6_14 dX6_setTable_26 ?_
        refine j_iload J dX6_setTable_29 (lv_at hl 0 rfl) ?_
        refine k_X2_get (k := 8) (i := i) hD (by decide) (show 0 ≤ i ∧ i < ((31 : Nat) : Int) from by omega) J hw hl.1 lk_X6_24 ⟨Nat.le_of_ble_eq_true rfl, Nat.le_of_ble_eq_true rfl⟩ (Nat.le_of_ble_eq_true rfl) dX6_setTable_31 (fun H locs hw => ?_)
        have b1 := hB.table i; rw [show hdS σ t v i 0 (t + 1) 8 i = σ 8 i from hdS_at1 (by omega)]
        refine j_min J (show rg v by unfold rg; omega) (show rg (σ 8 i) by unfold rg; omega) hl.1 lk_X6_28 ⟨Nat.le_of_ble_eq_true rfl, Nat.le_of_ble_eq_true rfl, Nat.zero_le _, Nat.zero_le _⟩ dX6_setTable_34 ?_
        refine k_X2_put (k := 8) (i := i) (v := min v (σ 8 i)) hD (by decide) (show 0 ≤ i ∧ i < ((31 : Nat) : Int) from by omega) J hw hl.1 lk_X6_20 ⟨Nat.le_of_ble_eq_true rfl, Nat.le_of_ble_eq_true rfl⟩ (Nat.le_of_ble_eq_true rfl) dX6_setTable_37 (fun H locs hw => ?_)
        refine j_pop J dX6_setTable_40 rfl ?_
        refine j_iinc J (lv' := [(4, .int (I (i + 1))), (0, .ref (ad 4)), (1, .int (I t)), (2, .int (I v)), (3, .int (I (σ 8 t)))]) (k := 0) hl dX6_setTable_41 rfl (by decide) rfl (fun ls hl => ?_)
        refine j_goto J 12 dX6_setTable_44 (by decide) ?_
        exact ih12 (i + 1) (by omega) (by omega) _ _ _ (by rw [← hdS_lo hi0.1 (by omega)]; exact hw) (lv_sub hl [0, 1, 2, 3, 4] rfl)
  exact L12 _ 1 (by omega) (Nat.lt_succ_self _) _ _ _ (by rw [hdS_0]; exact hw) (lv_sub hl [0, 2, 3, 4, 1] rfl)
theorem k_X6_setTable {p : Program} {l : Launch} {e : Env} {R : Room} {s : State} {m : MethodId} {args : Array Value} {below : List Frame} {meth : Method} {c : Code} {H : Heap} {locs : List Loc} {Q : State → Prop} {cc : ByteArray} {pc : Nat} {ls : Array Slot} {rest : List Value} {nL : Nat} {own : String} {D : va_G} {σ : St} {cI cZ : ClassId} {ad : Nat → Nat} {index : Nat} {t v : Int} (hD : ∀ τ, va_D (AD ad 45) (wsX cI ad τ)) (hB : Bd σ) (ht : 1 ≤ t ∧ t ≤ 30) (hv : 0 ≤ v ∧ v ≤ 200) (J : Jx p m c cc nL s args own D [(cI, .int), (cZ, .boolean)] (AD ad 45) (wsX cI ad)) (hw : jW D (AD ad 45) s.heap (wsX cI ad σ) H locs) (hsz : ls.size = nL) (hlk : Cond.methodLink own index yX6_setTable ∈ TBw) (hR : 2 ≤ R.frames ∧ 47 ≤ R.locals) (hroom : (rest.map fun v => v.category).sum ≤ 8) (hdg : decode cc pc = .ok (.invokevirtual index, 3)) (kk : ∀ (H1 : Heap) (locs1 : List Loc), jW D (AD ad 45) s.heap (wsX cI ad (hdS σ t v t 1 31)) H1 locs1 → W p l e R s m args below meth c H1 locs1 0 0 Q (F0 m (pc + 3) ls (.int (I (σ 8 t)) :: rest))) : W p l e R s m args below meth c H locs 0 0 Q (F0 m pc ls (.int (I v) :: .int (I t) :: .ref (ad 4) :: rest)) := 
  j_callVi J hw (c_X6_setTable  hD hB ht hv) hlk in_X6_setTable se_X6_setTable ini_X6 co_X6_setTable (n := 2) (by decide +kernel) ⟨rfl, rfl, hR.1, hR.2⟩ (j := 4) (ci := 6) rfl rfl rfl rfl hroom hsz ⟨Nat.zero_le _, Nat.zero_le _⟩ rfl hdg (fun r τ H1 locs1 hp hw1 => by obtain ⟨rfl, rfl⟩ := hp; exact kk H1 locs1 hw1)
def rm_X6_bestMinutes : Room := { frames := 1, cells := 0, slots := 0, locals := 21 }
set_option maxHeartbeats 4000000 in
set_option maxRecDepth 100000 in
theorem c_X6_bestMinutes {l : Launch} {D : va_G} {cI cZ : ClassId} {ad : Nat → Nat} {σ : St} {a : Int} (hD : ∀ τ, va_D (AD ad 45) (wsX cI ad τ)) (hB : Bd σ) (ha : 1 ≤ a ∧ a ≤ 20) : JMi l yX6_bestMinutes cX6_bestMinutes 5 (some .int) rm_X6_bestMinutes D [(cI, .int), (cZ, .boolean)] (AD ad 45) (wsX cI ad) [.ref (ad 4), .int (I a)] σ (fun r τ => r = (bsN σ a 29) ∧ τ = σ) := by
  refine JMi.of RX6 (by decide +kernel) rfl (Nat.le_of_ble_eq_true rfl) hD ?_
  intro p e s m args below meth c Q J fin H ls hw hl
  generalize ([] : List Loc) = locs at hw ⊢
  have hl : lv_has ls 5 [(0, .ref (ad 4)), (1, .int (I a))] := hl
  refine j_bipush J (120) dX6_bestMinutes_0 (by decide) ?_
  refine j_iload_n J dX6_bestMinutes_2 rfl (lv_at hl 1 rfl) ?_
  refine j_imul J dX6_bestMinutes_3 ?_
  refine j_istore_n J (lv' := [(2, .int (I (120 * a))), (0, .ref (ad 4)), (1, .int (I a))]) hl dX6_bestMinutes_4 rfl (by decide) rfl (fun ls hl => ?_)
  refine j_iconst J (1) dX6_bestMinutes_5 ?_
  refine j_istore_n J (lv' := [(3, .int (I 1)), (2, .int (I (120 * a))), (0, .ref (ad 4)), (1, .int (I a))]) hl dX6_bestMinutes_6 rfl (by decide) rfl (fun ls hl => ?_)
  refine j_iconst J (2) dX6_bestMinutes_7 ?_
  refine j_istore J (lv' := [(4, .int (I 2)), (3, .int (I 1)), (2, .int (I (120 * a))), (0, .ref (ad 4)), (1, .int (I a))]) hl dX6_bestMinutes_8 (by decide) rfl (fun ls hl => ?_)
  have L10 : ∀ n : Nat, ∀ (f : Int) (t : Int), (2 ≤ t ∧ t ≤ 31) → (1 ≤ f ∧ f ≤ 30) → (f = bsN σ a (t - 2).toNat) → ((31 - t).toNat) < n → ∀ (H : Heap) (locs : List Loc) (ls : Array Slot), jW D (AD ad 45) s.heap (wsX cI ad σ) H locs → lv_has ls 5 [(4, .int (I t)), (0, .ref (ad 4)), (1, .int (I a)), (2, .int (I (120 * a))), (3, .int (I f))] → W p l e rm_X6_bestMinutes s m args below meth c H locs 0 0 Q (F0 m 10 ls []) := by
    intro n
    induction n with
    | zero =>
      intro f t ht hf hfe hm H locs ls hw hl
      exact absurd hm (Nat.not_lt_zero _)
    | succ n ih =>
      intro f t ht hf hfe hm H locs ls hw hl
      have ih10 := ih
      refine j_iload J dX6_bestMinutes_10 (lv_at hl 0 rfl) ?_
      refine j_bipush J (30) dX6_bestMinutes_12 (by decide) ?_
      refine j_icmp_gt J 55 (show rg t by unfold rg; omega) (by unfold rg; omega) dX6_bestMinutes_14 (by decide) (fun (h_1 : 30 < t) => ?_) (fun (h_1 : t ≤ 30) => ?_)
      · refine j_iload_n J dX6_bestMinutes_55 rfl (lv_at hl 4 rfl) ?_
        exact fin _ _ _ _ _ _ dX6_bestMinutes_56 rfl (⟨by rw [hfe, show (t - 2).toNat = 29 by omega], rfl⟩) hw
      · refine j_aload_n J dX6_bestMinutes_17 rfl (lv_at hl 1 rfl) ?_
        refine xg_6_0 J hw lk_X6_14 dX6_bestMinutes_18 ?_
        refine j_iload J dX6_bestMinutes_21 (lv_at hl 0 rfl) ?_
        refine k_X2_get (k := 8) (i := t) hD (by decide) (show 0 ≤ t ∧ t < ((31 : Nat) : Int) from by omega) J hw hl.1 lk_X6_24 ⟨Nat.le_of_ble_eq_true rfl, Nat.le_of_ble_eq_true rfl⟩ (Nat.le_of_ble_eq_true rfl) dX6_bestMinutes_23 (fun H locs hw => ?_)
        refine j_iload_n J dX6_bestMinutes_26 rfl (lv_at hl 4 rfl) ?_
        refine j_iload_n J dX6_bestMinutes_27 rfl (lv_at hl 3 rfl) ?_
        refine j_iadd J dX6_bestMinutes_28 ?_
        refine j_imul J dX6_bestMinutes_29 ?_
        refine j_aload_n J dX6_bestMinutes_30 rfl (lv_at hl 1 rfl) ?_
        refine xg_6_0 J hw lk_X6_14 dX6_bestMinutes_31 ?_
        refine j_iload_n J dX6_bestMinutes_34 rfl (lv_at hl 4 rfl) ?_
        refine k_X2_get (k := 8) (i := f) hD (by decide) (show 0 ≤ f ∧ f < ((31 : Nat) : Int) from by omega) J hw hl.1 lk_X6_24 ⟨Nat.le_of_ble_eq_true rfl, Nat.le_of_ble_eq_true rfl⟩ (Nat.le_of_ble_eq_true rfl) dX6_bestMinutes_35 (fun H locs hw => ?_)
        refine j_iload J dX6_bestMinutes_38 (lv_at hl 0 rfl) ?_
        refine j_iload_n J dX6_bestMinutes_40 rfl (lv_at hl 3 rfl) ?_
        refine j_iadd J dX6_bestMinutes_41 ?_
        refine j_imul J dX6_bestMinutes_42 ?_
        have b1 := hB.table t; have b2 := hB.table f
        have q1 : 0 ≤ σ 8 t * (f + 120 * a) ∧ σ 8 t * (f + 120 * a) ≤ 200 * 2430 := ⟨Int.mul_nonneg (by omega) (by omega), Int.mul_le_mul (by omega) (by omega) (by omega) (by omega)⟩
        have q2 : 0 ≤ σ 8 f * (t + 120 * a) ∧ σ 8 f * (t + 120 * a) ≤ 200 * 2430 := ⟨Int.mul_nonneg (by omega) (by omega), Int.mul_le_mul (by omega) (by omega) (by omega) (by omega)⟩
        refine j_icmp_le J 49 (show rg ((σ 8 t) * (f + (120 * a))) by unfold rg; omega) (show rg ((σ 8 f) * (t + (120 * a))) by unfold rg; omega) dX6_bestMinutes_43 (by decide) (fun (h_2 : ((σ 8 t) * (f + (120 * a))) ≤ ((σ 8 f) * (t + (120 * a)))) => ?_) (fun (h_2 : ((σ 8 f) * (t + (120 * a))) < ((σ 8 t) * (f + (120 * a)))) => ?_)
        · refine j_iinc J (lv' := [(4, .int (I (t + 1))), (0, .ref (ad 4)), (1, .int (I a)), (2, .int (I (120 * a))), (3, .int (I f))]) (k := 0) hl dX6_bestMinutes_49 rfl (by decide) rfl (fun ls hl => ?_)
          refine j_goto J 10 dX6_bestMinutes_52 (by decide) ?_
          exact ih10 f (t + 1) (by omega) (by omega) (by rw [show (t + 1 - 2).toNat = (t - 2).toNat + 1 by omega]; first | exact bsN_yes ht.1 hfe (by assumption) | exact bsN_no ht.1 hfe (Int.not_lt.mpr (by assumption))) (by omega) _ _ _ hw (lv_sub hl [0, 1, 2, 3, 4] rfl)
        · refine j_iload J dX6_bestMinutes_46 (lv_at hl 0 rfl) ?_
          refine j_istore_n J (lv' := [(3, .int (I t)), (4, .int (I t)), (0, .ref (ad 4)), (1, .int (I a)), (2, .int (I (120 * a)))]) hl dX6_bestMinutes_48 rfl (by decide) rfl (fun ls hl => ?_)
          refine j_iinc J (lv' := [(4, .int (I (t + 1))), (3, .int (I t)), (0, .ref (ad 4)), (1, .int (I a)), (2, .int (I (120 * a)))]) (k := 1) hl dX6_bestMinutes_49 rfl (by decide) rfl (fun ls hl => ?_)
          refine j_goto J 10 dX6_bestMinutes_52 (by decide) ?_
          exact ih10 t (t + 1) (by omega) (by omega) (by rw [show (t + 1 - 2).toNat = (t - 2).toNat + 1 by omega]; first | exact bsN_yes ht.1 hfe (by assumption) | exact bsN_no ht.1 hfe (Int.not_lt.mpr (by assumption))) (by omega) _ _ _ hw (lv_sub hl [0, 2, 3, 4, 1] rfl)
  exact L10 _ 1 2 (by omega) (by omega) (rfl) (Nat.lt_succ_self _) _ _ _ hw (lv_sub hl [0, 3, 4, 2, 1] rfl)
theorem k_X6_bestMinutes {p : Program} {l : Launch} {e : Env} {R : Room} {s : State} {m : MethodId} {args : Array Value} {below : List Frame} {meth : Method} {c : Code} {H : Heap} {locs : List Loc} {Q : State → Prop} {cc : ByteArray} {pc : Nat} {ls : Array Slot} {rest : List Value} {nL : Nat} {own : String} {D : va_G} {σ : St} {cI cZ : ClassId} {ad : Nat → Nat} {index : Nat} {a : Int} (hD : ∀ τ, va_D (AD ad 45) (wsX cI ad τ)) (hB : Bd σ) (ha : 1 ≤ a ∧ a ≤ 20) (J : Jx p m c cc nL s args own D [(cI, .int), (cZ, .boolean)] (AD ad 45) (wsX cI ad)) (hw : jW D (AD ad 45) s.heap (wsX cI ad σ) H locs) (hsz : ls.size = nL) (hlk : Cond.methodLink own index yX6_bestMinutes ∈ TBw) (hR : 2 ≤ R.frames ∧ 45 ≤ R.locals) (hroom : (rest.map fun v => v.category).sum ≤ 8) (hdg : decode cc pc = .ok (.invokevirtual index, 3)) (kk : ∀ (H1 : Heap) (locs1 : List Loc), jW D (AD ad 45) s.heap (wsX cI ad σ) H1 locs1 → W p l e R s m args below meth c H1 locs1 0 0 Q (F0 m (pc + 3) ls (.int (I (bsN σ a 29)) :: rest))) : W p l e R s m args below meth c H locs 0 0 Q (F0 m pc ls (.int (I a) :: .ref (ad 4) :: rest)) := 
  j_callVi J hw (c_X6_bestMinutes  hD hB ha) hlk in_X6_bestMinutes se_X6_bestMinutes ini_X6 co_X6_bestMinutes (n := 1) (by decide +kernel) ⟨rfl, rfl, hR.1, hR.2⟩ (j := 4) (ci := 6) rfl rfl rfl rfl hroom hsz ⟨Nat.zero_le _, Nat.zero_le _⟩ rfl hdg (fun r τ H1 locs1 hp hw1 => by obtain ⟨rfl, rfl⟩ := hp; exact kk H1 locs1 hw1)
def rm_X7_start : Room := { frames := 1, cells := 0, slots := 0, locals := 22 }
set_option maxHeartbeats 4000000 in
set_option maxRecDepth 100000 in
theorem c_X7_start {l : Launch} {D : va_G} {cI cZ : ClassId} {ad : Nat → Nat} {σ : St}  (hD : ∀ τ, va_D (AD ad 45) (wsX cI ad τ))  : JMv l yX7_start cX7_start 1 rm_X7_start D [(cI, .int), (cZ, .boolean)] (AD ad 45) (wsX cI ad) [.ref (ad 6)] σ (fun τ => τ = fl (fl (fl σ 10 0 3) 11 1000 3) 12 2 3) := by
  refine JMv.of RX7 (by decide +kernel) rfl (Nat.le_of_ble_eq_true rfl) hD ?_
  intro p e s m args below meth c Q J fin H ls hw hl
  generalize ([] : List Loc) = locs at hw ⊢
  have hl : lv_has ls 1 [(0, .ref (ad 6))] := hl
  refine j_aload_n J dX7_start_0 rfl (lv_at hl 0 rfl) ?_
  refine xg_7_0 J hw lk_X7_14 dX7_start_1 ?_
  refine j_iconst J (0) dX7_start_4 ?_
  refine k_X2_fill (k := 10) (v := 0) hD (by decide) J hw hl.1 lk_X7_26 ⟨Nat.le_of_ble_eq_true rfl, Nat.le_of_ble_eq_true rfl⟩ (Nat.le_of_ble_eq_true rfl) dX7_start_5 (fun H locs hw => ?_)
  refine j_aload_n J dX7_start_8 rfl (lv_at hl 0 rfl) ?_
  refine xg_7_1 J hw lk_X7_20 dX7_start_9 ?_
  refine j_sipush J (1000) dX7_start_12 (by decide) ?_
  refine k_X2_fill (k := 11) (v := 1000) hD (by decide) J hw hl.1 lk_X7_26 ⟨Nat.le_of_ble_eq_true rfl, Nat.le_of_ble_eq_true rfl⟩ (Nat.le_of_ble_eq_true rfl) dX7_start_15 (fun H locs hw => ?_)
  refine j_aload_n J dX7_start_18 rfl (lv_at hl 0 rfl) ?_
  refine xg_7_2 J hw lk_X7_23 dX7_start_19 ?_
  refine j_iconst J (2) dX7_start_22 ?_
  refine k_X2_fill (k := 12) (v := 2) hD (by decide) J hw hl.1 lk_X7_26 ⟨Nat.le_of_ble_eq_true rfl, Nat.le_of_ble_eq_true rfl⟩ (Nat.le_of_ble_eq_true rfl) dX7_start_23 (fun H locs hw => ?_)
  exact fin _ _ _ _ _ dX7_start_26 (rfl) hw
theorem k_X7_start {p : Program} {l : Launch} {e : Env} {R : Room} {s : State} {m : MethodId} {args : Array Value} {below : List Frame} {meth : Method} {c : Code} {H : Heap} {locs : List Loc} {Q : State → Prop} {cc : ByteArray} {pc : Nat} {ls : Array Slot} {rest : List Value} {nL : Nat} {own : String} {D : va_G} {σ : St} {cI cZ : ClassId} {ad : Nat → Nat} {index : Nat}  (hD : ∀ τ, va_D (AD ad 45) (wsX cI ad τ))  (J : Jx p m c cc nL s args own D [(cI, .int), (cZ, .boolean)] (AD ad 45) (wsX cI ad)) (hw : jW D (AD ad 45) s.heap (wsX cI ad σ) H locs) (hsz : ls.size = nL) (hlk : Cond.methodLink own index yX7_start ∈ TBw) (hR : 2 ≤ R.frames ∧ 42 ≤ R.locals) (hroom : (rest.map fun v => v.category).sum ≤ 8) (hdg : decode cc pc = .ok (.invokevirtual index, 3)) (kk : ∀ (H1 : Heap) (locs1 : List Loc), jW D (AD ad 45) s.heap (wsX cI ad (fl (fl (fl σ 10 0 3) 11 1000 3) 12 2 3)) H1 locs1 → W p l e R s m args below meth c H1 locs1 0 0 Q (F0 m (pc + 3) ls rest)) : W p l e R s m args below meth c H locs 0 0 Q (F0 m pc ls (.ref (ad 6) :: rest)) := 
  j_callVv J hw (c_X7_start  hD ) hlk in_X7_start se_X7_start ini_X7 co_X7_start (n := 0) (by decide +kernel) ⟨rfl, rfl, hR.1, hR.2⟩ (j := 6) (ci := 7) rfl rfl rfl rfl hroom hsz ⟨Nat.zero_le _, Nat.zero_le _⟩ rfl hdg (fun τ H1 locs1 hp hw1 => by subst hp; exact kk H1 locs1 hw1)
def rm_X7_has : Room := { frames := 1, cells := 0, slots := 0, locals := 22 }
set_option maxHeartbeats 4000000 in
set_option maxRecDepth 100000 in
theorem c_X7_has {l : Launch} {D : va_G} {cI cZ : ClassId} {ad : Nat → Nat} {σ : St} {sp : Int} (hD : ∀ τ, va_D (AD ad 45) (wsX cI ad τ)) (r_sp : rg sp) : JMi l yX7_has cX7_has 2 (some .boolean) rm_X7_has D [(cI, .int), (cZ, .boolean)] (AD ad 45) (wsX cI ad) [.ref (ad 6), .int (I sp)] σ (fun r τ => r = (if 0 ≤ sp ∧ sp ≤ 2 then 1 else 0) ∧ τ = σ) := by
  refine JMi.of RX7 (by decide +kernel) rfl (Nat.le_of_ble_eq_true rfl) hD ?_
  intro p e s m args below meth c Q J fin H ls hw hl
  generalize ([] : List Loc) = locs at hw ⊢
  have hl : lv_has ls 2 [(0, .ref (ad 6)), (1, .int (I sp))] := hl
  have u_sp := r_sp; unfold rg at u_sp
  refine j_iload_n J dX7_has_0 rfl (lv_at hl 1 rfl) ?_
  refine j_iconst J (0) dX7_has_1 ?_
  refine j_iconst J (2) dX7_has_2 ?_
  refine kn_X9_within (v := sp) (lo := 0) (hi := 2) hD (by unfold rg; omega) (by unfold rg; omega) (by unfold rg; omega) J hw hl.1 (List.mem_of_getElem? (i := 9) rfl) ⟨Nat.le_of_ble_eq_true rfl, Nat.le_of_ble_eq_true rfl⟩ (Nat.le_of_ble_eq_true rfl) dX7_has_3 (fun H locs hw => ?_)
  exact fin _ _ _ _ _ _ dX7_has_6 (by split <;> rfl) (⟨rfl, rfl⟩) hw
theorem k_X7_has {p : Program} {l : Launch} {e : Env} {R : Room} {s : State} {m : MethodId} {args : Array Value} {below : List Frame} {meth : Method} {c : Code} {H : Heap} {locs : List Loc} {Q : State → Prop} {cc : ByteArray} {pc : Nat} {ls : Array Slot} {rest : List Value} {nL : Nat} {own : String} {D : va_G} {σ : St} {cI cZ : ClassId} {ad : Nat → Nat} {index : Nat} {sp : Int} (hD : ∀ τ, va_D (AD ad 45) (wsX cI ad τ)) (r_sp : rg sp) (J : Jx p m c cc nL s args own D [(cI, .int), (cZ, .boolean)] (AD ad 45) (wsX cI ad)) (hw : jW D (AD ad 45) s.heap (wsX cI ad σ) H locs) (hsz : ls.size = nL) (hlk : Cond.methodLink own index yX7_has ∈ TBw) (hR : 2 ≤ R.frames ∧ 43 ≤ R.locals) (hroom : (rest.map fun v => v.category).sum ≤ 8) (hdg : decode cc pc = .ok (.invokevirtual index, 3)) (kk : ∀ (H1 : Heap) (locs1 : List Loc), jW D (AD ad 45) s.heap (wsX cI ad σ) H1 locs1 → W p l e R s m args below meth c H1 locs1 0 0 Q (F0 m (pc + 3) ls (.int (I (if 0 ≤ sp ∧ sp ≤ 2 then 1 else 0)) :: rest))) : W p l e R s m args below meth c H locs 0 0 Q (F0 m pc ls (.int (I sp) :: .ref (ad 6) :: rest)) := 
  j_callVi J hw (c_X7_has  hD r_sp) hlk in_X7_has se_X7_has ini_X7 co_X7_has (n := 1) (by decide +kernel) ⟨rfl, rfl, hR.1, hR.2⟩ (j := 6) (ci := 7) rfl rfl rfl rfl hroom hsz ⟨Nat.zero_le _, Nat.zero_le _⟩ rfl hdg (fun r τ H1 locs1 hp hw1 => by obtain ⟨rfl, rfl⟩ := hp; exact kk H1 locs1 hw1)
def rm_X7_hasRoom : Room := { frames := 1, cells := 0, slots := 0, locals := 21 }
set_option maxHeartbeats 4000000 in
set_option maxRecDepth 100000 in
theorem c_X7_hasRoom {l : Launch} {D : va_G} {cI cZ : ClassId} {ad : Nat → Nat} {σ : St} {sp ld : Int} (hD : ∀ τ, va_D (AD ad 45) (wsX cI ad τ)) (hB : Bd σ) (hs : 0 ≤ sp ∧ sp ≤ 2) (hl0 : 0 ≤ ld ∧ ld ≤ 200) : JMi l yX7_hasRoom cX7_hasRoom 3 (some .boolean) rm_X7_hasRoom D [(cI, .int), (cZ, .boolean)] (AD ad 45) (wsX cI ad) [.ref (ad 6), .int (I sp), .int (I ld)] σ (fun r τ => r = (if σ 10 sp + ld ≤ σ 11 sp then 1 else 0) ∧ τ = σ) := by
  refine JMi.of RX7 (by decide +kernel) rfl (Nat.le_of_ble_eq_true rfl) hD ?_
  intro p e s m args below meth c Q J fin H ls hw hl
  generalize ([] : List Loc) = locs at hw ⊢
  have hl : lv_has ls 3 [(0, .ref (ad 6)), (1, .int (I sp)), (2, .int (I ld))] := hl
  have b1 := hB.held sp; have b2 := hB.most sp
  refine j_aload_n J dX7_hasRoom_0 rfl (lv_at hl 0 rfl) ?_
  refine xg_7_0 J hw lk_X7_14 dX7_hasRoom_1 ?_
  refine j_iload_n J dX7_hasRoom_4 rfl (lv_at hl 1 rfl) ?_
  refine k_X2_get (k := 10) (i := sp) hD (by decide) (show 0 ≤ sp ∧ sp < ((3 : Nat) : Int) from by omega) J hw hl.1 lk_X7_33 ⟨Nat.le_of_ble_eq_true rfl, Nat.le_of_ble_eq_true rfl⟩ (Nat.le_of_ble_eq_true rfl) dX7_hasRoom_5 (fun H locs hw => ?_)
  refine j_iload_n J dX7_hasRoom_8 rfl (lv_at hl 2 rfl) ?_
  refine j_iadd J dX7_hasRoom_9 ?_
  refine j_aload_n J dX7_hasRoom_10 rfl (lv_at hl 0 rfl) ?_
  refine xg_7_1 J hw lk_X7_20 dX7_hasRoom_11 ?_
  refine j_iload_n J dX7_hasRoom_14 rfl (lv_at hl 1 rfl) ?_
  refine k_X2_get (k := 11) (i := sp) hD (by decide) (show 0 ≤ sp ∧ sp < ((3 : Nat) : Int) from by omega) J hw hl.1 lk_X7_33 ⟨Nat.le_of_ble_eq_true rfl, Nat.le_of_ble_eq_true rfl⟩ (Nat.le_of_ble_eq_true rfl) dX7_hasRoom_15 (fun H locs hw => ?_)
  refine j_icmp_gt J 25 (show rg ((σ 10 sp) + ld) by unfold rg; omega) (show rg (σ 11 sp) by unfold rg; omega) dX7_hasRoom_18 (by decide) (fun (h_1 : (σ 11 sp) < ((σ 10 sp) + ld)) => ?_) (fun (h_1 : ((σ 10 sp) + ld) ≤ (σ 11 sp)) => ?_)
  · refine j_iconst J (0) dX7_hasRoom_25 ?_
    exact fin _ _ _ _ _ _ dX7_hasRoom_26 rfl (⟨by first | exact (if_pos (by omega)).symm | exact (if_neg (by omega)).symm, rfl⟩) hw
  · refine j_iconst J (1) dX7_hasRoom_21 ?_
    refine j_goto J 26 dX7_hasRoom_22 (by decide) ?_
    exact fin _ _ _ _ _ _ dX7_hasRoom_26 rfl (⟨by first | exact (if_pos (by omega)).symm | exact (if_neg (by omega)).symm, rfl⟩) hw
theorem k_X7_hasRoom {p : Program} {l : Launch} {e : Env} {R : Room} {s : State} {m : MethodId} {args : Array Value} {below : List Frame} {meth : Method} {c : Code} {H : Heap} {locs : List Loc} {Q : State → Prop} {cc : ByteArray} {pc : Nat} {ls : Array Slot} {rest : List Value} {nL : Nat} {own : String} {D : va_G} {σ : St} {cI cZ : ClassId} {ad : Nat → Nat} {index : Nat} {sp ld : Int} (hD : ∀ τ, va_D (AD ad 45) (wsX cI ad τ)) (hB : Bd σ) (hs : 0 ≤ sp ∧ sp ≤ 2) (hl0 : 0 ≤ ld ∧ ld ≤ 200) (J : Jx p m c cc nL s args own D [(cI, .int), (cZ, .boolean)] (AD ad 45) (wsX cI ad)) (hw : jW D (AD ad 45) s.heap (wsX cI ad σ) H locs) (hsz : ls.size = nL) (hlk : Cond.methodLink own index yX7_hasRoom ∈ TBw) (hR : 2 ≤ R.frames ∧ 43 ≤ R.locals) (hroom : (rest.map fun v => v.category).sum ≤ 8) (hdg : decode cc pc = .ok (.invokevirtual index, 3)) (kk : ∀ (H1 : Heap) (locs1 : List Loc), jW D (AD ad 45) s.heap (wsX cI ad σ) H1 locs1 → W p l e R s m args below meth c H1 locs1 0 0 Q (F0 m (pc + 3) ls (.int (I (if σ 10 sp + ld ≤ σ 11 sp then 1 else 0)) :: rest))) : W p l e R s m args below meth c H locs 0 0 Q (F0 m pc ls (.int (I ld) :: .int (I sp) :: .ref (ad 6) :: rest)) := 
  j_callVi J hw (c_X7_hasRoom  hD hB hs hl0) hlk in_X7_hasRoom se_X7_hasRoom ini_X7 co_X7_hasRoom (n := 2) (by decide +kernel) ⟨rfl, rfl, hR.1, hR.2⟩ (j := 6) (ci := 7) rfl rfl rfl rfl hroom hsz ⟨Nat.zero_le _, Nat.zero_le _⟩ rfl hdg (fun r τ H1 locs1 hp hw1 => by obtain ⟨rfl, rfl⟩ := hp; exact kk H1 locs1 hw1)
def rm_X4_has : Room := { frames := 1, cells := 0, slots := 0, locals := 22 }
set_option maxHeartbeats 4000000 in
set_option maxRecDepth 100000 in
theorem c_X4_has {l : Launch} {D : va_G} {cI cZ : ClassId} {ad : Nat → Nat} {σ : St} {po : Int} (hD : ∀ τ, va_D (AD ad 45) (wsX cI ad τ)) (hq : 0 ≤ σ 18 6 ∧ σ 18 6 ≤ 8) (r_po : rg po) : JMi l yX4_has cX4_has 2 (some .boolean) rm_X4_has D [(cI, .int), (cZ, .boolean)] (AD ad 45) (wsX cI ad) [.ref (ad 7), .int (I po)] σ (fun r τ => r = (if 0 ≤ po ∧ po ≤ σ 18 6 - 1 then 1 else 0) ∧ τ = σ) := by
  refine JMi.of RX4 (by decide +kernel) rfl (Nat.le_of_ble_eq_true rfl) hD ?_
  intro p e s m args below meth c Q J fin H ls hw hl
  generalize ([] : List Loc) = locs at hw ⊢
  have hl : lv_has ls 2 [(0, .ref (ad 7)), (1, .int (I po))] := hl
  have u_po := r_po; unfold rg at u_po
  refine j_iload_n J dX4_has_0 rfl (lv_at hl 1 rfl) ?_
  refine j_iconst J (0) dX4_has_1 ?_
  refine j_aload_n J dX4_has_2 rfl (lv_at hl 0 rfl) ?_
  refine xg_4_3 J hw lk_X4_26 dX4_has_3 ?_
  refine j_iconst J (1) dX4_has_6 ?_
  refine j_isub J dX4_has_7 ?_
  refine kn_X9_within (v := po) (lo := 0) (hi := (σ 18 6) - 1) hD (by unfold rg; omega) (by unfold rg; omega) (by unfold rg; omega) J hw hl.1 (List.mem_of_getElem? (i := 11) rfl) ⟨Nat.le_of_ble_eq_true rfl, Nat.le_of_ble_eq_true rfl⟩ (Nat.le_of_ble_eq_true rfl) dX4_has_8 (fun H locs hw => ?_)
  exact fin _ _ _ _ _ _ dX4_has_11 (by split <;> rfl) (⟨rfl, rfl⟩) hw
theorem k_X4_has {p : Program} {l : Launch} {e : Env} {R : Room} {s : State} {m : MethodId} {args : Array Value} {below : List Frame} {meth : Method} {c : Code} {H : Heap} {locs : List Loc} {Q : State → Prop} {cc : ByteArray} {pc : Nat} {ls : Array Slot} {rest : List Value} {nL : Nat} {own : String} {D : va_G} {σ : St} {cI cZ : ClassId} {ad : Nat → Nat} {index : Nat} {po : Int} (hD : ∀ τ, va_D (AD ad 45) (wsX cI ad τ)) (hq : 0 ≤ σ 18 6 ∧ σ 18 6 ≤ 8) (r_po : rg po) (J : Jx p m c cc nL s args own D [(cI, .int), (cZ, .boolean)] (AD ad 45) (wsX cI ad)) (hw : jW D (AD ad 45) s.heap (wsX cI ad σ) H locs) (hsz : ls.size = nL) (hlk : Cond.methodLink own index yX4_has ∈ TBw) (hR : 2 ≤ R.frames ∧ 43 ≤ R.locals) (hroom : (rest.map fun v => v.category).sum ≤ 8) (hdg : decode cc pc = .ok (.invokevirtual index, 3)) (kk : ∀ (H1 : Heap) (locs1 : List Loc), jW D (AD ad 45) s.heap (wsX cI ad σ) H1 locs1 → W p l e R s m args below meth c H1 locs1 0 0 Q (F0 m (pc + 3) ls (.int (I (if 0 ≤ po ∧ po ≤ σ 18 6 - 1 then 1 else 0)) :: rest))) : W p l e R s m args below meth c H locs 0 0 Q (F0 m pc ls (.int (I po) :: .ref (ad 7) :: rest)) := 
  j_callVi J hw (c_X4_has  hD hq r_po) hlk in_X4_has se_X4_has ini_X4 co_X4_has (n := 1) (by decide +kernel) ⟨rfl, rfl, hR.1, hR.2⟩ (j := 7) (ci := 4) rfl rfl rfl rfl hroom hsz ⟨Nat.zero_le _, Nat.zero_le _⟩ rfl hdg (fun r τ H1 locs1 hp hw1 => by obtain ⟨rfl, rfl⟩ := hp; exact kk H1 locs1 hw1)
def rm_X4_isFull : Room := { frames := 0, cells := 0, slots := 0, locals := 0 }
set_option maxHeartbeats 4000000 in
set_option maxRecDepth 100000 in
theorem c_X4_isFull {l : Launch} {D : va_G} {cI cZ : ClassId} {ad : Nat → Nat} {σ : St}  (hD : ∀ τ, va_D (AD ad 45) (wsX cI ad τ)) (hq : 0 ≤ σ 18 6 ∧ σ 18 6 ≤ 8) : JMi l yX4_isFull cX4_isFull 1 (some .boolean) rm_X4_isFull D [(cI, .int), (cZ, .boolean)] (AD ad 45) (wsX cI ad) [.ref (ad 7)] σ (fun r τ => r = (if 8 ≤ σ 18 6 then 1 else 0) ∧ τ = σ) := by
  refine JMi.of RX4 (by decide +kernel) rfl (Nat.le_of_ble_eq_true rfl) hD ?_
  intro p e s m args below meth c Q J fin H ls hw hl
  generalize ([] : List Loc) = locs at hw ⊢
  have hl : lv_has ls 1 [(0, .ref (ad 7))] := hl
  refine j_aload_n J dX4_isFull_0 rfl (lv_at hl 0 rfl) ?_
  refine xg_4_3 J hw lk_X4_26 dX4_isFull_1 ?_
  refine j_bipush J (8) dX4_isFull_4 (by decide) ?_
  refine j_icmp_lt J 13 (show rg (σ 18 6) by unfold rg; omega) (by unfold rg; omega) dX4_isFull_6 (by decide) (fun (h_1 : (σ 18 6) < 8) => ?_) (fun (h_1 : 8 ≤ (σ 18 6)) => ?_)
  · refine j_iconst J (0) dX4_isFull_13 ?_
    exact fin _ _ _ _ _ _ dX4_isFull_14 rfl (⟨by first | exact (if_pos (by omega)).symm | exact (if_neg (by omega)).symm, rfl⟩) hw
  · refine j_iconst J (1) dX4_isFull_9 ?_
    refine j_goto J 14 dX4_isFull_10 (by decide) ?_
    exact fin _ _ _ _ _ _ dX4_isFull_14 rfl (⟨by first | exact (if_pos (by omega)).symm | exact (if_neg (by omega)).symm, rfl⟩) hw
theorem k_X4_isFull {p : Program} {l : Launch} {e : Env} {R : Room} {s : State} {m : MethodId} {args : Array Value} {below : List Frame} {meth : Method} {c : Code} {H : Heap} {locs : List Loc} {Q : State → Prop} {cc : ByteArray} {pc : Nat} {ls : Array Slot} {rest : List Value} {nL : Nat} {own : String} {D : va_G} {σ : St} {cI cZ : ClassId} {ad : Nat → Nat} {index : Nat}  (hD : ∀ τ, va_D (AD ad 45) (wsX cI ad τ)) (hq : 0 ≤ σ 18 6 ∧ σ 18 6 ≤ 8) (J : Jx p m c cc nL s args own D [(cI, .int), (cZ, .boolean)] (AD ad 45) (wsX cI ad)) (hw : jW D (AD ad 45) s.heap (wsX cI ad σ) H locs) (hsz : ls.size = nL) (hlk : Cond.methodLink own index yX4_isFull ∈ TBw) (hR : 1 ≤ R.frames ∧ 20 ≤ R.locals) (hroom : (rest.map fun v => v.category).sum ≤ 8) (hdg : decode cc pc = .ok (.invokevirtual index, 3)) (kk : ∀ (H1 : Heap) (locs1 : List Loc), jW D (AD ad 45) s.heap (wsX cI ad σ) H1 locs1 → W p l e R s m args below meth c H1 locs1 0 0 Q (F0 m (pc + 3) ls (.int (I (if 8 ≤ σ 18 6 then 1 else 0)) :: rest))) : W p l e R s m args below meth c H locs 0 0 Q (F0 m pc ls (.ref (ad 7) :: rest)) := 
  j_callVi J hw (c_X4_isFull  hD hq) hlk in_X4_isFull se_X4_isFull ini_X4 co_X4_isFull (n := 0) (by decide +kernel) ⟨rfl, rfl, hR.1, hR.2⟩ (j := 7) (ci := 4) rfl rfl rfl rfl hroom hsz ⟨Nat.zero_le _, Nat.zero_le _⟩ rfl hdg (fun r τ H1 locs1 hp hw1 => by obtain ⟨rfl, rfl⟩ := hp; exact kk H1 locs1 hw1)
def rm_X4_put : Room := { frames := 1, cells := 0, slots := 0, locals := 23 }
set_option maxHeartbeats 4000000 in
set_option maxRecDepth 100000 in
theorem c_X4_put {l : Launch} {D : va_G} {cI cZ : ClassId} {ad : Nat → Nat} {σ : St} {cell lim : Int} (hD : ∀ τ, va_D (AD ad 45) (wsX cI ad τ)) (hq : 0 ≤ σ 18 6 ∧ σ 18 6 < 8) : JMi l yX4_put cX4_put 3 (some .int) rm_X4_put D [(cI, .int), (cZ, .boolean)] (AD ad 45) (wsX cI ad) [.ref (ad 7), .int (I cell), .int (I lim)] σ (fun r τ => r = (σ 18 6) ∧ τ = st (st (st (st σ 13 (σ 18 6) cell) 14 (σ 18 6) lim) 15 (σ 18 6) 0) 18 6 (σ 18 6 + 1)) := by
  refine JMi.of RX4 (by decide +kernel) rfl (Nat.le_of_ble_eq_true rfl) hD ?_
  intro p e s m args below meth c Q J fin H ls hw hl
  generalize ([] : List Loc) = locs at hw ⊢
  have hl : lv_has ls 3 [(0, .ref (ad 7)), (1, .int (I cell)), (2, .int (I lim))] := hl
  refine j_aload_n J dX4_put_0 rfl (lv_at hl 0 rfl) ?_
  refine xg_4_0 J hw lk_X4_14 dX4_put_1 ?_
  refine j_aload_n J dX4_put_4 rfl (lv_at hl 0 rfl) ?_
  refine xg_4_3 J hw lk_X4_26 dX4_put_5 ?_
  refine j_iload_n J dX4_put_8 rfl (lv_at hl 1 rfl) ?_
  refine k_X2_put (k := 13) (i := σ 18 6) (v := cell) hD (by decide) (show 0 ≤ σ 18 6 ∧ (σ 18 6) < ((8 : Nat) : Int) from by omega) J hw hl.1 lk_X4_34 ⟨Nat.le_of_ble_eq_true rfl, Nat.le_of_ble_eq_true rfl⟩ (Nat.le_of_ble_eq_true rfl) dX4_put_9 (fun H locs hw => ?_)
  refine j_pop J dX4_put_12 rfl ?_
  refine j_aload_n J dX4_put_13 rfl (lv_at hl 0 rfl) ?_
  refine xg_4_1 J hw lk_X4_20 dX4_put_14 ?_
  refine j_aload_n J dX4_put_17 rfl (lv_at hl 0 rfl) ?_
  refine xg_4_3 J hw lk_X4_26 dX4_put_18 ?_
  refine j_iload_n J dX4_put_21 rfl (lv_at hl 2 rfl) ?_
  refine k_X2_put (k := 14) (i := σ 18 6) (v := lim) hD (by decide) (show 0 ≤ σ 18 6 ∧ (σ 18 6) < ((8 : Nat) : Int) from by omega) J hw hl.1 lk_X4_34 ⟨Nat.le_of_ble_eq_true rfl, Nat.le_of_ble_eq_true rfl⟩ (Nat.le_of_ble_eq_true rfl) dX4_put_22 (fun H locs hw => ?_)
  refine j_pop J dX4_put_25 rfl ?_
  refine j_aload_n J dX4_put_26 rfl (lv_at hl 0 rfl) ?_
  refine xg_4_2 J hw lk_X4_23 dX4_put_27 ?_
  refine j_aload_n J dX4_put_30 rfl (lv_at hl 0 rfl) ?_
  refine xg_4_3 J hw lk_X4_26 dX4_put_31 ?_
  refine j_iconst J (0) dX4_put_34 ?_
  refine k_X2_put (k := 15) (i := σ 18 6) (v := 0) hD (by decide) (show 0 ≤ σ 18 6 ∧ (σ 18 6) < ((8 : Nat) : Int) from by omega) J hw hl.1 lk_X4_34 ⟨Nat.le_of_ble_eq_true rfl, Nat.le_of_ble_eq_true rfl⟩ (Nat.le_of_ble_eq_true rfl) dX4_put_35 (fun H locs hw => ?_)
  refine j_pop J dX4_put_38 rfl ?_
  refine j_aload_n J dX4_put_39 rfl (lv_at hl 0 rfl) ?_
  refine j_dup J dX4_put_40 rfl ?_
  refine xg_4_3 J hw lk_X4_26 dX4_put_41 ?_
  refine j_iconst J (1) dX4_put_44 ?_
  refine j_iadd J dX4_put_45 ?_
  refine xs_4_3 J hw lk_X4_26 dX4_put_46 (fun H locs hw => ?_)
  refine j_aload_n J dX4_put_49 rfl (lv_at hl 0 rfl) ?_
  refine xg_4_3 J hw lk_X4_26 dX4_put_50 ?_
  refine j_iconst J (1) dX4_put_53 ?_
  refine j_isub J dX4_put_54 ?_
  exact fin _ _ _ _ _ _ dX4_put_55 rfl (⟨by show σ 18 6 + 1 - 1 = σ 18 6; omega, rfl⟩) hw
theorem k_X4_put {p : Program} {l : Launch} {e : Env} {R : Room} {s : State} {m : MethodId} {args : Array Value} {below : List Frame} {meth : Method} {c : Code} {H : Heap} {locs : List Loc} {Q : State → Prop} {cc : ByteArray} {pc : Nat} {ls : Array Slot} {rest : List Value} {nL : Nat} {own : String} {D : va_G} {σ : St} {cI cZ : ClassId} {ad : Nat → Nat} {index : Nat} {cell lim : Int} (hD : ∀ τ, va_D (AD ad 45) (wsX cI ad τ)) (hq : 0 ≤ σ 18 6 ∧ σ 18 6 < 8) (J : Jx p m c cc nL s args own D [(cI, .int), (cZ, .boolean)] (AD ad 45) (wsX cI ad)) (hw : jW D (AD ad 45) s.heap (wsX cI ad σ) H locs) (hsz : ls.size = nL) (hlk : Cond.methodLink own index yX4_put ∈ TBw) (hR : 2 ≤ R.frames ∧ 45 ≤ R.locals) (hroom : (rest.map fun v => v.category).sum ≤ 8) (hdg : decode cc pc = .ok (.invokevirtual index, 3)) (kk : ∀ (H1 : Heap) (locs1 : List Loc), jW D (AD ad 45) s.heap (wsX cI ad (st (st (st (st σ 13 (σ 18 6) cell) 14 (σ 18 6) lim) 15 (σ 18 6) 0) 18 6 (σ 18 6 + 1))) H1 locs1 → W p l e R s m args below meth c H1 locs1 0 0 Q (F0 m (pc + 3) ls (.int (I (σ 18 6)) :: rest))) : W p l e R s m args below meth c H locs 0 0 Q (F0 m pc ls (.int (I lim) :: .int (I cell) :: .ref (ad 7) :: rest)) := 
  j_callVi J hw (c_X4_put  hD hq) hlk in_X4_put se_X4_put ini_X4 co_X4_put (n := 2) (by decide +kernel) ⟨rfl, rfl, hR.1, hR.2⟩ (j := 7) (ci := 4) rfl rfl rfl rfl hroom hsz ⟨Nat.zero_le _, Nat.zero_le _⟩ rfl hdg (fun r τ H1 locs1 hp hw1 => by obtain ⟨rfl, rfl⟩ := hp; exact kk H1 locs1 hw1)
def rm_X4_watch : Room := { frames := 2, cells := 0, slots := 0, locals := 45 }
set_option maxHeartbeats 4000000 in
set_option maxRecDepth 100000 in
theorem c_X4_watch {l : Launch} {D : va_G} {cI cZ : ClassId} {ad : Nat → Nat} {σ : St}  (hD : ∀ τ, va_D (AD ad 45) (wsX cI ad τ)) (hB : Bd σ) : JMv l yX4_watch cX4_watch 3 rm_X4_watch D [(cI, .int), (cZ, .boolean)] (AD ad 45) (wsX cI ad) [.ref (ad 7), .ref (ad 2)] σ (fun τ => τ = wtS σ (σ 18 6)) := by
  refine JMv.of RX4 (by decide +kernel) rfl (Nat.le_of_ble_eq_true rfl) hD ?_
  intro p e s m args below meth c Q J fin H ls hw hl
  generalize ([] : List Loc) = locs at hw ⊢
  have hl : lv_has ls 3 [(0, .ref (ad 7)), (1, .ref (ad 2))] := hl
  have hd : Dim _ := hB.dim
  have hd1 := hd.1; have hd2 := hd.2.1; have hd3 := hd.2.2.1; have hd4 := hd.2.2.2; have hm := hd.mul
  have hq := hB.posts; have htr := hB.trips
  refine j_iconst J (0) dX4_watch_0 ?_
  refine j_istore_n J (lv' := [(2, .int (I 0)), (0, .ref (ad 7)), (1, .ref (ad 2))]) hl dX4_watch_1 rfl (by decide) rfl (fun ls hl => ?_)
  have L2 : ∀ n : Nat, ∀ (i : Int), (0 ≤ i ∧ i ≤ σ 18 6) → ((σ 18 6 - i).toNat) < n → ∀ (H : Heap) (locs : List Loc) (ls : Array Slot), jW D (AD ad 45) s.heap (wsX cI ad (wtS σ i)) H locs → lv_has ls 3 [(2, .int (I i)), (0, .ref (ad 7)), (1, .ref (ad 2))] → W p l e rm_X4_watch s m args below meth c H locs 0 0 Q (F0 m 2 ls []) := by
    intro n
    induction n with
    | zero =>
      intro i hi0 hm H locs ls hw hl
      exact absurd hm (Nat.not_lt_zero _)
    | succ n ih =>
      intro i hi0 hm H locs ls hw hl
      have ih2 := ih
      refine j_iload_n J dX4_watch_2 rfl (lv_at hl 0 rfl) ?_
      refine j_aload_n J dX4_watch_3 rfl (lv_at hl 1 rfl) ?_
      refine xg_4_3 J hw lk_X4_26 dX4_watch_4 ?_
      refine j_icmp_ge J 51 (show rg i by unfold rg; omega) (show rg (σ 18 6) by unfold rg; omega) dX4_watch_7 (by decide) (fun (h_1 : (σ 18 6) ≤ i) => ?_) (fun (h_1 : i < (σ 18 6)) => ?_)
      · exact fin _ _ _ _ _ dX4_watch_51 (by rw [show i = σ 18 6 by omega]) hw
      · refine j_aload_n J dX4_watch_10 rfl (lv_at hl 2 rfl) ?_
        refine xg_0_0 J hw lk_X4_38 dX4_watch_11 ?_
        refine j_aload_n J dX4_watch_14 rfl (lv_at hl 1 rfl) ?_
        refine xg_4_0 J hw lk_X4_14 dX4_watch_15 ?_
        refine j_iload_n J dX4_watch_18 rfl (lv_at hl 0 rfl) ?_
        refine k_X2_get (k := 13) (i := i) hD (by decide) (show 0 ≤ i ∧ i < ((8 : Nat) : Int) from by omega) J hw hl.1 lk_X4_43 ⟨Nat.le_of_ble_eq_true rfl, Nat.le_of_ble_eq_true rfl⟩ (Nat.le_of_ble_eq_true rfl) dX4_watch_19 (fun H locs hw => ?_)
        have bp2 := hB.place i (by omega) (by omega)
        refine k_X2_get (k := 4) (i := σ 13 i) hD (by decide) (show 0 ≤ σ 13 i ∧ (σ 13 i) < ((120 : Nat) : Int) from by omega) J hw hl.1 lk_X4_43 ⟨Nat.le_of_ble_eq_true rfl, Nat.le_of_ble_eq_true rfl⟩ (Nat.le_of_ble_eq_true rfl) dX4_watch_22 (fun H locs hw => ?_)
        refine j_aload_n J dX4_watch_25 rfl (lv_at hl 1 rfl) ?_
        refine xg_4_1 J hw lk_X4_20 dX4_watch_26 ?_
        refine j_iload_n J dX4_watch_29 rfl (lv_at hl 0 rfl) ?_
        refine k_X2_get (k := 14) (i := i) hD (by decide) (show 0 ≤ i ∧ i < ((8 : Nat) : Int) from by omega) J hw hl.1 lk_X4_43 ⟨Nat.le_of_ble_eq_true rfl, Nat.le_of_ble_eq_true rfl⟩ (Nat.le_of_ble_eq_true rfl) dX4_watch_30 (fun H locs hw => ?_)
        have b1 := hB.cloud (σ 13 i); have b2 := hB.limit i
        refine j_icmp_le J 45 (show rg (σ 4 (σ 13 i)) by unfold rg; omega) (show rg (σ 14 i) by unfold rg; omega) dX4_watch_33 (by decide) (fun (h_2 : (σ 4 (σ 13 i)) ≤ (σ 14 i)) => ?_) (fun (h_2 : (σ 14 i) < (σ 4 (σ 13 i))) => ?_)
        · refine j_iinc J (lv' := [(2, .int (I (i + 1))), (0, .ref (ad 7)), (1, .ref (ad 2))]) (k := 0) hl dX4_watch_45 rfl (by decide) rfl (fun ls hl => ?_)
          refine j_goto J 2 dX4_watch_48 (by decide) ?_
          exact ih2 (i + 1) (by omega) (by omega) _ _ _ (by first | (rw [← wtS_yes hi0.1 (by assumption)]; exact hw) | (rw [← wtS_no hi0.1 (by omega)]; exact hw)) (lv_sub hl [0, 1, 2] rfl)
        · refine j_aload_n J dX4_watch_36 rfl (lv_at hl 1 rfl) ?_
          refine xg_4_2 J hw lk_X4_23 dX4_watch_37 ?_
          refine j_iload_n J dX4_watch_40 rfl (lv_at hl 0 rfl) ?_
          refine j_iconst J (1) dX4_watch_41 ?_
          refine k_X2_add (k := 15) (i := i) (v := 1) hD (by decide) (show 0 ≤ i ∧ i < ((8 : Nat) : Int) from by omega) J hw hl.1 lk_X4_47 ⟨Nat.le_of_ble_eq_true rfl, Nat.le_of_ble_eq_true rfl⟩ (Nat.le_of_ble_eq_true rfl) dX4_watch_42 (fun H locs hw => ?_)
          refine j_iinc J (lv' := [(2, .int (I (i + 1))), (0, .ref (ad 7)), (1, .ref (ad 2))]) (k := 0) hl dX4_watch_45 rfl (by decide) rfl (fun ls hl => ?_)
          refine j_goto J 2 dX4_watch_48 (by decide) ?_
          exact ih2 (i + 1) (by omega) (by omega) _ _ _ (by first | (rw [← wtS_yes hi0.1 (by assumption)]; exact hw) | (rw [← wtS_no hi0.1 (by omega)]; exact hw)) (lv_sub hl [0, 1, 2] rfl)
  exact L2 _ 0 (by omega) (Nat.lt_succ_self _) _ _ _ (by rw [wtS_0]; exact hw) (lv_sub hl [0, 1, 2] rfl)
theorem k_X4_watch {p : Program} {l : Launch} {e : Env} {R : Room} {s : State} {m : MethodId} {args : Array Value} {below : List Frame} {meth : Method} {c : Code} {H : Heap} {locs : List Loc} {Q : State → Prop} {cc : ByteArray} {pc : Nat} {ls : Array Slot} {rest : List Value} {nL : Nat} {own : String} {D : va_G} {σ : St} {cI cZ : ClassId} {ad : Nat → Nat} {index : Nat}  (hD : ∀ τ, va_D (AD ad 45) (wsX cI ad τ)) (hB : Bd σ) (J : Jx p m c cc nL s args own D [(cI, .int), (cZ, .boolean)] (AD ad 45) (wsX cI ad)) (hw : jW D (AD ad 45) s.heap (wsX cI ad σ) H locs) (hsz : ls.size = nL) (hlk : Cond.methodLink own index yX4_watch ∈ TBw) (hR : 3 ≤ R.frames ∧ 67 ≤ R.locals) (hroom : (rest.map fun v => v.category).sum ≤ 8) (hdg : decode cc pc = .ok (.invokevirtual index, 3)) (kk : ∀ (H1 : Heap) (locs1 : List Loc), jW D (AD ad 45) s.heap (wsX cI ad (wtS σ (σ 18 6))) H1 locs1 → W p l e R s m args below meth c H1 locs1 0 0 Q (F0 m (pc + 3) ls rest)) : W p l e R s m args below meth c H locs 0 0 Q (F0 m pc ls (.ref (ad 2) :: .ref (ad 7) :: rest)) := 
  j_callVv J hw (c_X4_watch  hD hB) hlk in_X4_watch se_X4_watch ini_X4 co_X4_watch (n := 1) (by decide +kernel) ⟨rfl, rfl, hR.1, hR.2⟩ (j := 7) (ci := 4) rfl rfl rfl rfl hroom hsz ⟨Nat.zero_le _, Nat.zero_le _⟩ rfl hdg (fun τ H1 locs1 hp hw1 => by subst hp; exact kk H1 locs1 hw1)
end
section
/-! sheets -/
def tkS (σ : St) (sh n : Int) : St := fun k i => if k = 17 ∧ i = sh then 1 else if k = 16 ∧ sh * 120 ≤ i ∧ i < sh * 120 + n then σ 1 (i - sh * 120) else σ k i
theorem tkS_0 {σ : St} {sh : Int} : tkS σ sh 0 = st σ 17 sh 1 := by
  funext k i
  unfold tkS st
  by_cases h : k = 17 ∧ i = sh
  · rw [if_pos h, if_pos h]
  · rw [if_neg h, if_neg h, if_neg (by omega)]
theorem tkS_step {σ : St} {sh n : Int} (h : 0 ≤ n) : st (tkS σ sh n) 16 (sh * 120 + n) (σ 1 n) = tkS σ sh (n + 1) := by
  funext k i
  unfold st
  by_cases h1 : k = 16 ∧ i = sh * 120 + n
  · rw [if_pos h1]; unfold tkS; rw [if_neg (by omega), if_pos (by omega), show i - sh * 120 = n by omega]
  · rw [if_neg h1]; unfold tkS
    by_cases h2 : k = 17 ∧ i = sh
    · rw [if_pos h2, if_pos h2]
    · rw [if_neg h2, if_neg h2]
      by_cases h3 : k = 16 ∧ sh * 120 ≤ i ∧ i < sh * 120 + n
      · rw [if_pos h3, if_pos (by omega)]
      · rw [if_neg h3, if_neg (by omega)]
def jnS (σ : St) (sh tt n : Int) : St := fun k i => if k = 16 ∧ sh * 120 ≤ i ∧ i < sh * 120 + n ∧ σ 16 i = -4 ∧ ¬ σ 16 (tt * 120 + (i - sh * 120)) = -4 then σ 16 (tt * 120 + (i - sh * 120)) else σ k i
theorem jnS_0 {σ : St} {sh tt : Int} : jnS σ sh tt 0 = σ := by
  funext k i
  unfold jnS
  rw [if_neg (by omega)]
theorem jn_at1 {σ : St} {sh tt n : Int} : jnS σ sh tt n 16 (sh * 120 + n) = σ 16 (sh * 120 + n) := by
  unfold jnS
  rw [if_neg (by omega)]
theorem jn_at2 {σ : St} {sh tt n : Int} (h : 0 ≤ n ∧ n < 120) : jnS σ sh tt n 16 (tt * 120 + n) = σ 16 (tt * 120 + n) := by
  unfold jnS
  rw [if_neg (by omega)]
theorem jn_yes {σ τ : St} {sh tt n : Int} (h : 0 ≤ n) (hτ : τ = jnS σ sh tt n) (h1 : σ 16 (sh * 120 + n) = -4) (h2 : ¬ σ 16 (tt * 120 + n) = -4) (e2 : τ 16 (tt * 120 + n) = σ 16 (tt * 120 + n)) : st τ 16 (sh * 120 + n) (τ 16 (tt * 120 + n)) = jnS σ sh tt (n + 1) := by
  rw [e2, hτ]
  funext k i
  unfold st
  by_cases hk : k = 16 ∧ i = sh * 120 + n
  · rw [if_pos hk]; unfold jnS; rw [hk.2, if_pos ⟨hk.1, by omega, by omega, h1, by rw [show sh * 120 + n - sh * 120 = n by omega]; exact h2⟩, show sh * 120 + n - sh * 120 = n by omega]
  · rw [if_neg hk]; unfold jnS
    by_cases h3 : k = 16 ∧ sh * 120 ≤ i ∧ i < sh * 120 + n ∧ σ 16 i = -4 ∧ ¬ σ 16 (tt * 120 + (i - sh * 120)) = -4
    · rw [if_pos h3, if_pos ⟨h3.1, h3.2.1, by omega, h3.2.2.2⟩]
    · rw [if_neg h3, if_neg (fun h4 => h3 ⟨h4.1, h4.2.1, by omega, h4.2.2.2⟩)]
theorem jn_no {σ τ : St} {sh tt n : Int} (h : 0 ≤ n) (hτ : τ = jnS σ sh tt n) (h1 : ¬ (σ 16 (sh * 120 + n) = -4 ∧ ¬ σ 16 (tt * 120 + n) = -4)) : τ = jnS σ sh tt (n + 1) := by
  rw [hτ]
  funext k i
  unfold jnS
  by_cases h3 : k = 16 ∧ sh * 120 ≤ i ∧ i < sh * 120 + n ∧ σ 16 i = -4 ∧ ¬ σ 16 (tt * 120 + (i - sh * 120)) = -4
  · rw [if_pos h3, if_pos ⟨h3.1, h3.2.1, by omega, h3.2.2.2⟩]
  · rw [if_neg h3, if_neg]
    intro h4
    by_cases e : i = sh * 120 + n
    · rw [e, show sh * 120 + n - sh * 120 = n by omega] at h4
      exact h1 ⟨h4.2.2.2.1, h4.2.2.2.2⟩
    · exact h3 ⟨h4.1, h4.2.1, by omega, h4.2.2.2⟩
def rm_X5_start : Room := { frames := 1, cells := 0, slots := 0, locals := 22 }
set_option maxHeartbeats 4000000 in
set_option maxRecDepth 100000 in
theorem c_X5_start {l : Launch} {D : va_G} {cI cZ : ClassId} {ad : Nat → Nat} {σ : St}  (hD : ∀ τ, va_D (AD ad 45) (wsX cI ad τ))  : JMv l yX5_start cX5_start 1 rm_X5_start D [(cI, .int), (cZ, .boolean)] (AD ad 45) (wsX cI ad) [.ref (ad 8)] σ (fun τ => τ = fl σ 17 0 6) := by
  refine JMv.of RX5 (by decide +kernel) rfl (Nat.le_of_ble_eq_true rfl) hD ?_
  intro p e s m args below meth c Q J fin H ls hw hl
  generalize ([] : List Loc) = locs at hw ⊢
  have hl : lv_has ls 1 [(0, .ref (ad 8))] := hl
  refine j_aload_n J dX5_start_0 rfl (lv_at hl 0 rfl) ?_
  refine xg_5_1 J hw lk_X5_20 dX5_start_1 ?_
  refine j_iconst J (0) dX5_start_4 ?_
  refine k_X2_fill (k := 17) (v := 0) hD (by decide) J hw hl.1 lk_X5_23 ⟨Nat.le_of_ble_eq_true rfl, Nat.le_of_ble_eq_true rfl⟩ (Nat.le_of_ble_eq_true rfl) dX5_start_5 (fun H locs hw => ?_)
  exact fin _ _ _ _ _ dX5_start_8 (rfl) hw
theorem k_X5_start {p : Program} {l : Launch} {e : Env} {R : Room} {s : State} {m : MethodId} {args : Array Value} {below : List Frame} {meth : Method} {c : Code} {H : Heap} {locs : List Loc} {Q : State → Prop} {cc : ByteArray} {pc : Nat} {ls : Array Slot} {rest : List Value} {nL : Nat} {own : String} {D : va_G} {σ : St} {cI cZ : ClassId} {ad : Nat → Nat} {index : Nat}  (hD : ∀ τ, va_D (AD ad 45) (wsX cI ad τ))  (J : Jx p m c cc nL s args own D [(cI, .int), (cZ, .boolean)] (AD ad 45) (wsX cI ad)) (hw : jW D (AD ad 45) s.heap (wsX cI ad σ) H locs) (hsz : ls.size = nL) (hlk : Cond.methodLink own index yX5_start ∈ TBw) (hR : 2 ≤ R.frames ∧ 42 ≤ R.locals) (hroom : (rest.map fun v => v.category).sum ≤ 8) (hdg : decode cc pc = .ok (.invokevirtual index, 3)) (kk : ∀ (H1 : Heap) (locs1 : List Loc), jW D (AD ad 45) s.heap (wsX cI ad (fl σ 17 0 6)) H1 locs1 → W p l e R s m args below meth c H1 locs1 0 0 Q (F0 m (pc + 3) ls rest)) : W p l e R s m args below meth c H locs 0 0 Q (F0 m pc ls (.ref (ad 8) :: rest)) := 
  j_callVv J hw (c_X5_start  hD ) hlk in_X5_start se_X5_start ini_X5 co_X5_start (n := 0) (by decide +kernel) ⟨rfl, rfl, hR.1, hR.2⟩ (j := 8) (ci := 5) rfl rfl rfl rfl hroom hsz ⟨Nat.zero_le _, Nat.zero_le _⟩ rfl hdg (fun τ H1 locs1 hp hw1 => by subst hp; exact kk H1 locs1 hw1)
def rm_X5_has : Room := { frames := 1, cells := 0, slots := 0, locals := 22 }
set_option maxHeartbeats 4000000 in
set_option maxRecDepth 100000 in
theorem c_X5_has {l : Launch} {D : va_G} {cI cZ : ClassId} {ad : Nat → Nat} {σ : St} {sh : Int} (hD : ∀ τ, va_D (AD ad 45) (wsX cI ad τ)) (r_sh : rg sh) : JMi l yX5_has cX5_has 2 (some .boolean) rm_X5_has D [(cI, .int), (cZ, .boolean)] (AD ad 45) (wsX cI ad) [.ref (ad 8), .int (I sh)] σ (fun r τ => r = (if 0 ≤ sh ∧ sh ≤ 5 then 1 else 0) ∧ τ = σ) := by
  refine JMi.of RX5 (by decide +kernel) rfl (Nat.le_of_ble_eq_true rfl) hD ?_
  intro p e s m args below meth c Q J fin H ls hw hl
  generalize ([] : List Loc) = locs at hw ⊢
  have hl : lv_has ls 2 [(0, .ref (ad 8)), (1, .int (I sh))] := hl
  have u_sh := r_sh; unfold rg at u_sh
  refine j_iload_n J dX5_has_0 rfl (lv_at hl 1 rfl) ?_
  refine j_iconst J (0) dX5_has_1 ?_
  refine j_iconst J (5) dX5_has_2 ?_
  refine kn_X9_within (v := sh) (lo := 0) (hi := 5) hD (by unfold rg; omega) (by unfold rg; omega) (by unfold rg; omega) J hw hl.1 (List.mem_of_getElem? (i := 10) rfl) ⟨Nat.le_of_ble_eq_true rfl, Nat.le_of_ble_eq_true rfl⟩ (Nat.le_of_ble_eq_true rfl) dX5_has_3 (fun H locs hw => ?_)
  exact fin _ _ _ _ _ _ dX5_has_6 (by split <;> rfl) (⟨rfl, rfl⟩) hw
theorem k_X5_has {p : Program} {l : Launch} {e : Env} {R : Room} {s : State} {m : MethodId} {args : Array Value} {below : List Frame} {meth : Method} {c : Code} {H : Heap} {locs : List Loc} {Q : State → Prop} {cc : ByteArray} {pc : Nat} {ls : Array Slot} {rest : List Value} {nL : Nat} {own : String} {D : va_G} {σ : St} {cI cZ : ClassId} {ad : Nat → Nat} {index : Nat} {sh : Int} (hD : ∀ τ, va_D (AD ad 45) (wsX cI ad τ)) (r_sh : rg sh) (J : Jx p m c cc nL s args own D [(cI, .int), (cZ, .boolean)] (AD ad 45) (wsX cI ad)) (hw : jW D (AD ad 45) s.heap (wsX cI ad σ) H locs) (hsz : ls.size = nL) (hlk : Cond.methodLink own index yX5_has ∈ TBw) (hR : 2 ≤ R.frames ∧ 43 ≤ R.locals) (hroom : (rest.map fun v => v.category).sum ≤ 8) (hdg : decode cc pc = .ok (.invokevirtual index, 3)) (kk : ∀ (H1 : Heap) (locs1 : List Loc), jW D (AD ad 45) s.heap (wsX cI ad σ) H1 locs1 → W p l e R s m args below meth c H1 locs1 0 0 Q (F0 m (pc + 3) ls (.int (I (if 0 ≤ sh ∧ sh ≤ 5 then 1 else 0)) :: rest))) : W p l e R s m args below meth c H locs 0 0 Q (F0 m pc ls (.int (I sh) :: .ref (ad 8) :: rest)) := 
  j_callVi J hw (c_X5_has  hD r_sh) hlk in_X5_has se_X5_has ini_X5 co_X5_has (n := 1) (by decide +kernel) ⟨rfl, rfl, hR.1, hR.2⟩ (j := 8) (ci := 5) rfl rfl rfl rfl hroom hsz ⟨Nat.zero_le _, Nat.zero_le _⟩ rfl hdg (fun r τ H1 locs1 hp hw1 => by obtain ⟨rfl, rfl⟩ := hp; exact kk H1 locs1 hw1)
def rm_X5_isMissing : Room := { frames := 1, cells := 0, slots := 0, locals := 21 }
set_option maxHeartbeats 4000000 in
set_option maxRecDepth 100000 in
theorem c_X5_isMissing {l : Launch} {D : va_G} {cI cZ : ClassId} {ad : Nat → Nat} {σ : St} {sh : Int} (hD : ∀ τ, va_D (AD ad 45) (wsX cI ad τ)) (hsh : 0 ≤ sh ∧ sh ≤ 5) (hv : 0 ≤ σ 17 sh ∧ σ 17 sh ≤ 1) : JMi l yX5_isMissing cX5_isMissing 2 (some .boolean) rm_X5_isMissing D [(cI, .int), (cZ, .boolean)] (AD ad 45) (wsX cI ad) [.ref (ad 8), .int (I sh)] σ (fun r τ => r = (if σ 17 sh = 0 then 1 else 0) ∧ τ = σ) := by
  refine JMi.of RX5 (by decide +kernel) rfl (Nat.le_of_ble_eq_true rfl) hD ?_
  intro p e s m args below meth c Q J fin H ls hw hl
  generalize ([] : List Loc) = locs at hw ⊢
  have hl : lv_has ls 2 [(0, .ref (ad 8)), (1, .int (I sh))] := hl
  refine j_aload_n J dX5_isMissing_0 rfl (lv_at hl 0 rfl) ?_
  refine xg_5_1 J hw lk_X5_20 dX5_isMissing_1 ?_
  refine j_iload_n J dX5_isMissing_4 rfl (lv_at hl 1 rfl) ?_
  refine k_X2_get (k := 17) (i := sh) hD (by decide) (show 0 ≤ sh ∧ sh < ((6 : Nat) : Int) from by omega) J hw hl.1 lk_X5_30 ⟨Nat.le_of_ble_eq_true rfl, Nat.le_of_ble_eq_true rfl⟩ (Nat.le_of_ble_eq_true rfl) dX5_isMissing_5 (fun H locs hw => ?_)
  refine j_if_ne J 15 (show rg (σ 17 sh) by unfold rg; omega) dX5_isMissing_8 (by decide) (fun (h_1 : ¬ (σ 17 sh) = 0) => ?_) (fun (h_1 : (σ 17 sh) = 0) => ?_)
  · refine j_iconst J (0) dX5_isMissing_15 ?_
    exact fin _ _ _ _ _ _ dX5_isMissing_16 rfl (⟨by first | exact (if_pos (by omega)).symm | exact (if_neg (by omega)).symm, rfl⟩) hw
  · refine j_iconst J (1) dX5_isMissing_11 ?_
    refine j_goto J 16 dX5_isMissing_12 (by decide) ?_
    exact fin _ _ _ _ _ _ dX5_isMissing_16 rfl (⟨by first | exact (if_pos (by omega)).symm | exact (if_neg (by omega)).symm, rfl⟩) hw
theorem k_X5_isMissing {p : Program} {l : Launch} {e : Env} {R : Room} {s : State} {m : MethodId} {args : Array Value} {below : List Frame} {meth : Method} {c : Code} {H : Heap} {locs : List Loc} {Q : State → Prop} {cc : ByteArray} {pc : Nat} {ls : Array Slot} {rest : List Value} {nL : Nat} {own : String} {D : va_G} {σ : St} {cI cZ : ClassId} {ad : Nat → Nat} {index : Nat} {sh : Int} (hD : ∀ τ, va_D (AD ad 45) (wsX cI ad τ)) (hsh : 0 ≤ sh ∧ sh ≤ 5) (hv : 0 ≤ σ 17 sh ∧ σ 17 sh ≤ 1) (J : Jx p m c cc nL s args own D [(cI, .int), (cZ, .boolean)] (AD ad 45) (wsX cI ad)) (hw : jW D (AD ad 45) s.heap (wsX cI ad σ) H locs) (hsz : ls.size = nL) (hlk : Cond.methodLink own index yX5_isMissing ∈ TBw) (hR : 2 ≤ R.frames ∧ 42 ≤ R.locals) (hroom : (rest.map fun v => v.category).sum ≤ 8) (hdg : decode cc pc = .ok (.invokevirtual index, 3)) (kk : ∀ (H1 : Heap) (locs1 : List Loc), jW D (AD ad 45) s.heap (wsX cI ad σ) H1 locs1 → W p l e R s m args below meth c H1 locs1 0 0 Q (F0 m (pc + 3) ls (.int (I (if σ 17 sh = 0 then 1 else 0)) :: rest))) : W p l e R s m args below meth c H locs 0 0 Q (F0 m pc ls (.int (I sh) :: .ref (ad 8) :: rest)) := 
  j_callVi J hw (c_X5_isMissing  hD hsh hv) hlk in_X5_isMissing se_X5_isMissing ini_X5 co_X5_isMissing (n := 1) (by decide +kernel) ⟨rfl, rfl, hR.1, hR.2⟩ (j := 8) (ci := 5) rfl rfl rfl rfl hroom hsz ⟨Nat.zero_le _, Nat.zero_le _⟩ rfl hdg (fun r τ H1 locs1 hp hw1 => by obtain ⟨rfl, rfl⟩ := hp; exact kk H1 locs1 hw1)
def rm_X5_read : Room := { frames := 1, cells := 0, slots := 0, locals := 21 }
set_option maxHeartbeats 4000000 in
set_option maxRecDepth 100000 in
theorem c_X5_read {l : Launch} {D : va_G} {cI cZ : ClassId} {ad : Nat → Nat} {σ : St} {sh cl : Int} (hD : ∀ τ, va_D (AD ad 45) (wsX cI ad τ)) (hsh : 0 ≤ sh ∧ sh ≤ 5) (hc : 0 ≤ cl ∧ cl < 120) : JMi l yX5_read cX5_read 3 (some .int) rm_X5_read D [(cI, .int), (cZ, .boolean)] (AD ad 45) (wsX cI ad) [.ref (ad 8), .int (I sh), .int (I cl)] σ (fun r τ => r = (σ 16 (sh * 120 + cl)) ∧ τ = σ) := by
  refine JMi.of RX5 (by decide +kernel) rfl (Nat.le_of_ble_eq_true rfl) hD ?_
  intro p e s m args below meth c Q J fin H ls hw hl
  generalize ([] : List Loc) = locs at hw ⊢
  have hl : lv_has ls 3 [(0, .ref (ad 8)), (1, .int (I sh)), (2, .int (I cl))] := hl
  refine j_aload_n J dX5_read_0 rfl (lv_at hl 0 rfl) ?_
  refine xg_5_0 J hw lk_X5_14 dX5_read_1 ?_
  refine j_iload_n J dX5_read_4 rfl (lv_at hl 1 rfl) ?_
  refine j_bipush J (120) dX5_read_5 (by decide) ?_
  refine j_imul J dX5_read_7 ?_
  refine j_iload_n J dX5_read_8 rfl (lv_at hl 2 rfl) ?_
  refine j_iadd J dX5_read_9 ?_
  refine k_X2_get (k := 16) (i := (sh * 120) + cl) hD (by decide) (show 0 ≤ (sh * 120) + cl ∧ ((sh * 120) + cl) < ((720 : Nat) : Int) from by omega) J hw hl.1 lk_X5_30 ⟨Nat.le_of_ble_eq_true rfl, Nat.le_of_ble_eq_true rfl⟩ (Nat.le_of_ble_eq_true rfl) dX5_read_10 (fun H locs hw => ?_)
  exact fin _ _ _ _ _ _ dX5_read_13 rfl (⟨rfl, rfl⟩) hw
theorem k_X5_read {p : Program} {l : Launch} {e : Env} {R : Room} {s : State} {m : MethodId} {args : Array Value} {below : List Frame} {meth : Method} {c : Code} {H : Heap} {locs : List Loc} {Q : State → Prop} {cc : ByteArray} {pc : Nat} {ls : Array Slot} {rest : List Value} {nL : Nat} {own : String} {D : va_G} {σ : St} {cI cZ : ClassId} {ad : Nat → Nat} {index : Nat} {sh cl : Int} (hD : ∀ τ, va_D (AD ad 45) (wsX cI ad τ)) (hsh : 0 ≤ sh ∧ sh ≤ 5) (hc : 0 ≤ cl ∧ cl < 120) (J : Jx p m c cc nL s args own D [(cI, .int), (cZ, .boolean)] (AD ad 45) (wsX cI ad)) (hw : jW D (AD ad 45) s.heap (wsX cI ad σ) H locs) (hsz : ls.size = nL) (hlk : Cond.methodLink own index yX5_read ∈ TBw) (hR : 2 ≤ R.frames ∧ 43 ≤ R.locals) (hroom : (rest.map fun v => v.category).sum ≤ 8) (hdg : decode cc pc = .ok (.invokevirtual index, 3)) (kk : ∀ (H1 : Heap) (locs1 : List Loc), jW D (AD ad 45) s.heap (wsX cI ad σ) H1 locs1 → W p l e R s m args below meth c H1 locs1 0 0 Q (F0 m (pc + 3) ls (.int (I (σ 16 (sh * 120 + cl))) :: rest))) : W p l e R s m args below meth c H locs 0 0 Q (F0 m pc ls (.int (I cl) :: .int (I sh) :: .ref (ad 8) :: rest)) := 
  j_callVi J hw (c_X5_read  hD hsh hc) hlk in_X5_read se_X5_read ini_X5 co_X5_read (n := 2) (by decide +kernel) ⟨rfl, rfl, hR.1, hR.2⟩ (j := 8) (ci := 5) rfl rfl rfl rfl hroom hsz ⟨Nat.zero_le _, Nat.zero_le _⟩ rfl hdg (fun r τ H1 locs1 hp hw1 => by obtain ⟨rfl, rfl⟩ := hp; exact kk H1 locs1 hw1)
def rm_X5_write : Room := { frames := 1, cells := 0, slots := 0, locals := 23 }
set_option maxHeartbeats 4000000 in
set_option maxRecDepth 100000 in
theorem c_X5_write {l : Launch} {D : va_G} {cI cZ : ClassId} {ad : Nat → Nat} {σ : St} {sh cl v : Int} (hD : ∀ τ, va_D (AD ad 45) (wsX cI ad τ)) (hsh : 0 ≤ sh ∧ sh ≤ 5) (hc : 0 ≤ cl ∧ cl < 120) : JMv l yX5_write cX5_write 4 rm_X5_write D [(cI, .int), (cZ, .boolean)] (AD ad 45) (wsX cI ad) [.ref (ad 8), .int (I sh), .int (I cl), .int (I v)] σ (fun τ => τ = st σ 16 (sh * 120 + cl) v) := by
  refine JMv.of RX5 (by decide +kernel) rfl (Nat.le_of_ble_eq_true rfl) hD ?_
  intro p e s m args below meth c Q J fin H ls hw hl
  generalize ([] : List Loc) = locs at hw ⊢
  have hl : lv_has ls 4 [(0, .ref (ad 8)), (1, .int (I sh)), (2, .int (I cl)), (3, .int (I v))] := hl
  refine j_aload_n J dX5_write_0 rfl (lv_at hl 0 rfl) ?_
  refine xg_5_0 J hw lk_X5_14 dX5_write_1 ?_
  refine j_iload_n J dX5_write_4 rfl (lv_at hl 1 rfl) ?_
  refine j_bipush J (120) dX5_write_5 (by decide) ?_
  refine j_imul J dX5_write_7 ?_
  refine j_iload_n J dX5_write_8 rfl (lv_at hl 2 rfl) ?_
  refine j_iadd J dX5_write_9 ?_
  refine j_iload_n J dX5_write_10 rfl (lv_at hl 3 rfl) ?_
  refine k_X2_put (k := 16) (i := (sh * 120) + cl) (v := v) hD (by decide) (show 0 ≤ (sh * 120) + cl ∧ ((sh * 120) + cl) < ((720 : Nat) : Int) from by omega) J hw hl.1 lk_X5_34 ⟨Nat.le_of_ble_eq_true rfl, Nat.le_of_ble_eq_true rfl⟩ (Nat.le_of_ble_eq_true rfl) dX5_write_11 (fun H locs hw => ?_)
  refine j_pop J dX5_write_14 rfl ?_
  exact fin _ _ _ _ _ dX5_write_15 (rfl) hw
theorem k_X5_write {p : Program} {l : Launch} {e : Env} {R : Room} {s : State} {m : MethodId} {args : Array Value} {below : List Frame} {meth : Method} {c : Code} {H : Heap} {locs : List Loc} {Q : State → Prop} {cc : ByteArray} {pc : Nat} {ls : Array Slot} {rest : List Value} {nL : Nat} {own : String} {D : va_G} {σ : St} {cI cZ : ClassId} {ad : Nat → Nat} {index : Nat} {sh cl v : Int} (hD : ∀ τ, va_D (AD ad 45) (wsX cI ad τ)) (hsh : 0 ≤ sh ∧ sh ≤ 5) (hc : 0 ≤ cl ∧ cl < 120) (J : Jx p m c cc nL s args own D [(cI, .int), (cZ, .boolean)] (AD ad 45) (wsX cI ad)) (hw : jW D (AD ad 45) s.heap (wsX cI ad σ) H locs) (hsz : ls.size = nL) (hlk : Cond.methodLink own index yX5_write ∈ TBw) (hR : 2 ≤ R.frames ∧ 46 ≤ R.locals) (hroom : (rest.map fun v => v.category).sum ≤ 8) (hdg : decode cc pc = .ok (.invokevirtual index, 3)) (kk : ∀ (H1 : Heap) (locs1 : List Loc), jW D (AD ad 45) s.heap (wsX cI ad (st σ 16 (sh * 120 + cl) v)) H1 locs1 → W p l e R s m args below meth c H1 locs1 0 0 Q (F0 m (pc + 3) ls rest)) : W p l e R s m args below meth c H locs 0 0 Q (F0 m pc ls (.int (I v) :: .int (I cl) :: .int (I sh) :: .ref (ad 8) :: rest)) := 
  j_callVv J hw (c_X5_write  hD hsh hc) hlk in_X5_write se_X5_write ini_X5 co_X5_write (n := 3) (by decide +kernel) ⟨rfl, rfl, hR.1, hR.2⟩ (j := 8) (ci := 5) rfl rfl rfl rfl hroom hsz ⟨Nat.zero_le _, Nat.zero_le _⟩ rfl hdg (fun τ H1 locs1 hp hw1 => by subst hp; exact kk H1 locs1 hw1)
def rm_X5_knows : Room := { frames := 2, cells := 0, slots := 0, locals := 43 }
set_option maxHeartbeats 4000000 in
set_option maxRecDepth 100000 in
theorem c_X5_knows {l : Launch} {D : va_G} {cI cZ : ClassId} {ad : Nat → Nat} {σ : St} {sh cl : Int} (hD : ∀ τ, va_D (AD ad 45) (wsX cI ad τ)) (hsh : 0 ≤ sh ∧ sh ≤ 5) (hc : 0 ≤ cl ∧ cl < 120) (hv : -4 ≤ σ 16 (sh * 120 + cl) ∧ σ 16 (sh * 120 + cl) ≤ 400) : JMi l yX5_knows cX5_knows 3 (some .boolean) rm_X5_knows D [(cI, .int), (cZ, .boolean)] (AD ad 45) (wsX cI ad) [.ref (ad 8), .int (I sh), .int (I cl)] σ (fun r τ => r = (if ¬ σ 16 (sh * 120 + cl) = -4 then 1 else 0) ∧ τ = σ) := by
  refine JMi.of RX5 (by decide +kernel) rfl (Nat.le_of_ble_eq_true rfl) hD ?_
  intro p e s m args below meth c Q J fin H ls hw hl
  generalize ([] : List Loc) = locs at hw ⊢
  have hl : lv_has ls 3 [(0, .ref (ad 8)), (1, .int (I sh)), (2, .int (I cl))] := hl
  refine j_aload_n J dX5_knows_0 rfl (lv_at hl 0 rfl) ?_
  refine j_iload_n J dX5_knows_1 rfl (lv_at hl 1 rfl) ?_
  refine j_iload_n J dX5_knows_2 rfl (lv_at hl 2 rfl) ?_
  refine k_X5_read (sh := sh) (cl := cl) hD (by omega) (by omega) J hw hl.1 lk_X5_38 ⟨Nat.le_of_ble_eq_true rfl, Nat.le_of_ble_eq_true rfl⟩ (Nat.le_of_ble_eq_true rfl) dX5_knows_3 (fun H locs hw => ?_)
  refine j_bipush J (-4) dX5_knows_6 (by decide) ?_
  refine j_icmp_eq J 15 (show rg (σ 16 (sh * 120 + cl)) by unfold rg; omega) (by unfold rg; omega) dX5_knows_8 (by decide) (fun (h_1 : (σ 16 (sh * 120 + cl)) = (-4)) => ?_) (fun (h_1 : ¬ (σ 16 (sh * 120 + cl)) = (-4)) => ?_)
  · refine j_iconst J (0) dX5_knows_15 ?_
    exact fin _ _ _ _ _ _ dX5_knows_16 rfl (⟨by first | exact (if_pos (by omega)).symm | exact (if_neg (by omega)).symm, rfl⟩) hw
  · refine j_iconst J (1) dX5_knows_11 ?_
    refine j_goto J 16 dX5_knows_12 (by decide) ?_
    exact fin _ _ _ _ _ _ dX5_knows_16 rfl (⟨by first | exact (if_pos (by omega)).symm | exact (if_neg (by omega)).symm, rfl⟩) hw
theorem k_X5_knows {p : Program} {l : Launch} {e : Env} {R : Room} {s : State} {m : MethodId} {args : Array Value} {below : List Frame} {meth : Method} {c : Code} {H : Heap} {locs : List Loc} {Q : State → Prop} {cc : ByteArray} {pc : Nat} {ls : Array Slot} {rest : List Value} {nL : Nat} {own : String} {D : va_G} {σ : St} {cI cZ : ClassId} {ad : Nat → Nat} {index : Nat} {sh cl : Int} (hD : ∀ τ, va_D (AD ad 45) (wsX cI ad τ)) (hsh : 0 ≤ sh ∧ sh ≤ 5) (hc : 0 ≤ cl ∧ cl < 120) (hv : -4 ≤ σ 16 (sh * 120 + cl) ∧ σ 16 (sh * 120 + cl) ≤ 400) (J : Jx p m c cc nL s args own D [(cI, .int), (cZ, .boolean)] (AD ad 45) (wsX cI ad)) (hw : jW D (AD ad 45) s.heap (wsX cI ad σ) H locs) (hsz : ls.size = nL) (hlk : Cond.methodLink own index yX5_knows ∈ TBw) (hR : 3 ≤ R.frames ∧ 65 ≤ R.locals) (hroom : (rest.map fun v => v.category).sum ≤ 8) (hdg : decode cc pc = .ok (.invokevirtual index, 3)) (kk : ∀ (H1 : Heap) (locs1 : List Loc), jW D (AD ad 45) s.heap (wsX cI ad σ) H1 locs1 → W p l e R s m args below meth c H1 locs1 0 0 Q (F0 m (pc + 3) ls (.int (I (if ¬ σ 16 (sh * 120 + cl) = -4 then 1 else 0)) :: rest))) : W p l e R s m args below meth c H locs 0 0 Q (F0 m pc ls (.int (I cl) :: .int (I sh) :: .ref (ad 8) :: rest)) := 
  j_callVi J hw (c_X5_knows  hD hsh hc hv) hlk in_X5_knows se_X5_knows ini_X5 co_X5_knows (n := 2) (by decide +kernel) ⟨rfl, rfl, hR.1, hR.2⟩ (j := 8) (ci := 5) rfl rfl rfl rfl hroom hsz ⟨Nat.zero_le _, Nat.zero_le _⟩ rfl hdg (fun r τ H1 locs1 hp hw1 => by obtain ⟨rfl, rfl⟩ := hp; exact kk H1 locs1 hw1)
def rm_X5_bothKnow : Room := { frames := 3, cells := 0, slots := 0, locals := 65 }
set_option maxHeartbeats 4000000 in
set_option maxRecDepth 100000 in
theorem c_X5_bothKnow {l : Launch} {D : va_G} {cI cZ : ClassId} {ad : Nat → Nat} {σ : St} {sh tt cl : Int} (hD : ∀ τ, va_D (AD ad 45) (wsX cI ad τ)) (hsh : 0 ≤ sh ∧ sh ≤ 5) (htt : 0 ≤ tt ∧ tt ≤ 5) (hc : 0 ≤ cl ∧ cl < 120) (hv1 : -4 ≤ σ 16 (sh * 120 + cl) ∧ σ 16 (sh * 120 + cl) ≤ 400) (hv2 : -4 ≤ σ 16 (tt * 120 + cl) ∧ σ 16 (tt * 120 + cl) ≤ 400) : JMi l yX5_bothKnow cX5_bothKnow 4 (some .boolean) rm_X5_bothKnow D [(cI, .int), (cZ, .boolean)] (AD ad 45) (wsX cI ad) [.ref (ad 8), .int (I sh), .int (I tt), .int (I cl)] σ (fun r τ => r = (if ¬ σ 16 (sh * 120 + cl) = -4 ∧ ¬ σ 16 (tt * 120 + cl) = -4 then 1 else 0) ∧ τ = σ) := by
  refine JMi.of RX5 (by decide +kernel) rfl (Nat.le_of_ble_eq_true rfl) hD ?_
  intro p e s m args below meth c Q J fin H ls hw hl
  generalize ([] : List Loc) = locs at hw ⊢
  have hl : lv_has ls 4 [(0, .ref (ad 8)), (1, .int (I sh)), (2, .int (I tt)), (3, .int (I cl))] := hl
  refine j_aload_n J dX5_bothKnow_0 rfl (lv_at hl 0 rfl) ?_
  refine j_iload_n J dX5_bothKnow_1 rfl (lv_at hl 1 rfl) ?_
  refine j_iload_n J dX5_bothKnow_2 rfl (lv_at hl 3 rfl) ?_
  refine k_X5_knows (sh := sh) (cl := cl) hD (by omega) (by omega) (hv1) J hw hl.1 lk_X5_41 ⟨Nat.le_of_ble_eq_true rfl, Nat.le_of_ble_eq_true rfl⟩ (Nat.le_of_ble_eq_true rfl) dX5_bothKnow_3 (fun H locs hw => ?_)
  refine j_ifeqB J 22 dX5_bothKnow_6 (by decide) (fun (h_1 : ¬ (¬ σ 16 (sh * 120 + cl) = -4)) => ?_) (fun (h_1 : ¬ σ 16 (sh * 120 + cl) = -4) => ?_)
  · refine j_iconst J (0) dX5_bothKnow_22 ?_
    exact fin _ _ _ _ _ _ dX5_bothKnow_23 rfl (⟨by first | exact (if_pos ⟨by assumption, by assumption⟩).symm | exact (if_neg (by omega)).symm, rfl⟩) hw
  · refine j_aload_n J dX5_bothKnow_9 rfl (lv_at hl 0 rfl) ?_
    refine j_iload_n J dX5_bothKnow_10 rfl (lv_at hl 2 rfl) ?_
    refine j_iload_n J dX5_bothKnow_11 rfl (lv_at hl 3 rfl) ?_
    refine k_X5_knows (sh := tt) (cl := cl) hD (by omega) (by omega) (hv2) J hw hl.1 lk_X5_41 ⟨Nat.le_of_ble_eq_true rfl, Nat.le_of_ble_eq_true rfl⟩ (Nat.le_of_ble_eq_true rfl) dX5_bothKnow_12 (fun H locs hw => ?_)
    refine j_ifeqB J 22 dX5_bothKnow_15 (by decide) (fun (h_2 : ¬ (¬ σ 16 (tt * 120 + cl) = -4)) => ?_) (fun (h_2 : ¬ σ 16 (tt * 120 + cl) = -4) => ?_)
    · refine j_iconst J (0) dX5_bothKnow_22 ?_
      exact fin _ _ _ _ _ _ dX5_bothKnow_23 rfl (⟨by first | exact (if_pos ⟨by assumption, by assumption⟩).symm | exact (if_neg (by omega)).symm, rfl⟩) hw
    · refine j_iconst J (1) dX5_bothKnow_18 ?_
      refine j_goto J 23 dX5_bothKnow_19 (by decide) ?_
      exact fin _ _ _ _ _ _ dX5_bothKnow_23 rfl (⟨by first | exact (if_pos ⟨by assumption, by assumption⟩).symm | exact (if_neg (by omega)).symm, rfl⟩) hw
theorem k_X5_bothKnow {p : Program} {l : Launch} {e : Env} {R : Room} {s : State} {m : MethodId} {args : Array Value} {below : List Frame} {meth : Method} {c : Code} {H : Heap} {locs : List Loc} {Q : State → Prop} {cc : ByteArray} {pc : Nat} {ls : Array Slot} {rest : List Value} {nL : Nat} {own : String} {D : va_G} {σ : St} {cI cZ : ClassId} {ad : Nat → Nat} {index : Nat} {sh tt cl : Int} (hD : ∀ τ, va_D (AD ad 45) (wsX cI ad τ)) (hsh : 0 ≤ sh ∧ sh ≤ 5) (htt : 0 ≤ tt ∧ tt ≤ 5) (hc : 0 ≤ cl ∧ cl < 120) (hv1 : -4 ≤ σ 16 (sh * 120 + cl) ∧ σ 16 (sh * 120 + cl) ≤ 400) (hv2 : -4 ≤ σ 16 (tt * 120 + cl) ∧ σ 16 (tt * 120 + cl) ≤ 400) (J : Jx p m c cc nL s args own D [(cI, .int), (cZ, .boolean)] (AD ad 45) (wsX cI ad)) (hw : jW D (AD ad 45) s.heap (wsX cI ad σ) H locs) (hsz : ls.size = nL) (hlk : Cond.methodLink own index yX5_bothKnow ∈ TBw) (hR : 4 ≤ R.frames ∧ 88 ≤ R.locals) (hroom : (rest.map fun v => v.category).sum ≤ 8) (hdg : decode cc pc = .ok (.invokevirtual index, 3)) (kk : ∀ (H1 : Heap) (locs1 : List Loc), jW D (AD ad 45) s.heap (wsX cI ad σ) H1 locs1 → W p l e R s m args below meth c H1 locs1 0 0 Q (F0 m (pc + 3) ls (.int (I (if ¬ σ 16 (sh * 120 + cl) = -4 ∧ ¬ σ 16 (tt * 120 + cl) = -4 then 1 else 0)) :: rest))) : W p l e R s m args below meth c H locs 0 0 Q (F0 m pc ls (.int (I cl) :: .int (I tt) :: .int (I sh) :: .ref (ad 8) :: rest)) := 
  j_callVi J hw (c_X5_bothKnow  hD hsh htt hc hv1 hv2) hlk in_X5_bothKnow se_X5_bothKnow ini_X5 co_X5_bothKnow (n := 3) (by decide +kernel) ⟨rfl, rfl, hR.1, hR.2⟩ (j := 8) (ci := 5) rfl rfl rfl rfl hroom hsz ⟨Nat.zero_le _, Nat.zero_le _⟩ rfl hdg (fun r τ H1 locs1 hp hw1 => by obtain ⟨rfl, rfl⟩ := hp; exact kk H1 locs1 hw1)
def rm_X5_take : Room := { frames := 2, cells := 0, slots := 0, locals := 46 }
set_option maxHeartbeats 4000000 in
set_option maxRecDepth 100000 in
theorem c_X5_take {l : Launch} {D : va_G} {cI cZ : ClassId} {ad : Nat → Nat} {σ : St} {sh : Int} (hD : ∀ τ, va_D (AD ad 45) (wsX cI ad τ)) (hB : Bd σ) (hsh : 0 ≤ sh ∧ sh ≤ 5) : JMv l yX5_take cX5_take 4 rm_X5_take D [(cI, .int), (cZ, .boolean)] (AD ad 45) (wsX cI ad) [.ref (ad 8), .int (I sh), .ref (ad 1)] σ (fun τ => τ = tkS σ sh (σ 18 0 * σ 18 1)) := by
  refine JMv.of RX5 (by decide +kernel) rfl (Nat.le_of_ble_eq_true rfl) hD ?_
  intro p e s m args below meth c Q J fin H ls hw hl
  generalize ([] : List Loc) = locs at hw ⊢
  have hl : lv_has ls 4 [(0, .ref (ad 8)), (1, .int (I sh)), (2, .ref (ad 1))] := hl
  have hd : Dim _ := hB.dim
  have hd1 := hd.1; have hd2 := hd.2.1; have hd3 := hd.2.2.1; have hd4 := hd.2.2.2; have hm := hd.mul
  refine j_aload_n J dX5_take_0 rfl (lv_at hl 0 rfl) ?_
  refine xg_5_1 J hw lk_X5_20 dX5_take_1 ?_
  refine j_iload_n J dX5_take_4 rfl (lv_at hl 1 rfl) ?_
  refine j_iconst J (1) dX5_take_5 ?_
  refine k_X2_put (k := 17) (i := sh) (v := 1) hD (by decide) (show 0 ≤ sh ∧ sh < ((6 : Nat) : Int) from by omega) J hw hl.1 lk_X5_34 ⟨Nat.le_of_ble_eq_true rfl, Nat.le_of_ble_eq_true rfl⟩ (Nat.le_of_ble_eq_true rfl) dX5_take_6 (fun H locs hw => ?_)
  refine j_pop J dX5_take_9 rfl ?_
  refine j_iconst J (0) dX5_take_10 ?_
  refine j_istore_n J (lv' := [(3, .int (I 0)), (0, .ref (ad 8)), (1, .int (I sh)), (2, .ref (ad 1))]) hl dX5_take_11 rfl (by decide) rfl (fun ls hl => ?_)
  have L12 : ∀ n : Nat, ∀ (i : Int), (0 ≤ i ∧ i ≤ σ 18 0 * σ 18 1) → ((σ 18 0 * σ 18 1 - i).toNat) < n → ∀ (H : Heap) (locs : List Loc) (ls : Array Slot), jW D (AD ad 45) s.heap (wsX cI ad (tkS σ sh i)) H locs → lv_has ls 4 [(3, .int (I i)), (0, .ref (ad 8)), (1, .int (I sh)), (2, .ref (ad 1))] → W p l e rm_X5_take s m args below meth c H locs 0 0 Q (F0 m 12 ls []) := by
    intro n
    induction n with
    | zero =>
      intro i hi0 hm H locs ls hw hl
      exact absurd hm (Nat.not_lt_zero _)
    | succ n ih =>
      intro i hi0 hm H locs ls hw hl
      have ih12 := ih
      refine j_iload_n J dX5_take_12 rfl (lv_at hl 0 rfl) ?_
      refine j_aload_n J dX5_take_13 rfl (lv_at hl 3 rfl) ?_
      refine k_X1_size  hD  J hw hl.1 lk_X5_45 ⟨Nat.le_of_ble_eq_true rfl, Nat.le_of_ble_eq_true rfl⟩ (Nat.le_of_ble_eq_true rfl) dX5_take_14 (fun H locs hw => ?_)
      refine j_icmp_ge J 40 (show rg i by unfold rg; omega) (show rg (σ 18 0 * σ 18 1) by unfold rg; omega) dX5_take_17 (by decide) (fun (h_1 : (σ 18 0 * σ 18 1) ≤ i) => ?_) (fun (h_1 : i < (σ 18 0 * σ 18 1)) => ?_)
      · exact fin _ _ _ _ _ dX5_take_40 (by rw [show i = σ 18 0 * σ 18 1 by omega]) hw
      · refine j_aload_n J dX5_take_20 rfl (lv_at hl 1 rfl) ?_
        refine j_iload_n J dX5_take_21 rfl (lv_at hl 2 rfl) ?_
        refine j_iload_n J dX5_take_22 rfl (lv_at hl 0 rfl) ?_
        refine j_aload_n J dX5_take_23 rfl (lv_at hl 3 rfl) ?_
        refine xg_1_0 J hw lk_X5_51 dX5_take_24 ?_
        refine j_iload_n J dX5_take_27 rfl (lv_at hl 0 rfl) ?_
        refine k_X2_get (k := 1) (i := i) hD (by decide) (show 0 ≤ i ∧ i < ((120 : Nat) : Int) from by omega) J hw hl.1 lk_X5_30 ⟨Nat.le_of_ble_eq_true rfl, Nat.le_of_ble_eq_true rfl⟩ (Nat.le_of_ble_eq_true rfl) dX5_take_28 (fun H locs hw => ?_)
        refine k_X5_write (sh := sh) (cl := i) (v := σ 1 i) hD (by omega) (by omega) J hw hl.1 lk_X5_54 ⟨Nat.le_of_ble_eq_true rfl, Nat.le_of_ble_eq_true rfl⟩ (Nat.le_of_ble_eq_true rfl) dX5_take_31 (fun H locs hw => ?_)
        refine j_iinc J (lv' := [(3, .int (I (i + 1))), (0, .ref (ad 8)), (1, .int (I sh)), (2, .ref (ad 1))]) (k := 0) hl dX5_take_34 rfl (by decide) rfl (fun ls hl => ?_)
        refine j_goto J 12 dX5_take_37 (by decide) ?_
        exact ih12 (i + 1) (by omega) (by omega) _ _ _ (by rw [← tkS_step hi0.1]; exact hw) (lv_sub hl [0, 1, 2, 3] rfl)
  exact L12 _ 0 (by omega) (Nat.lt_succ_self _) _ _ _ (by rw [tkS_0]; exact hw) (lv_sub hl [0, 1, 2, 3] rfl)
theorem k_X5_take {p : Program} {l : Launch} {e : Env} {R : Room} {s : State} {m : MethodId} {args : Array Value} {below : List Frame} {meth : Method} {c : Code} {H : Heap} {locs : List Loc} {Q : State → Prop} {cc : ByteArray} {pc : Nat} {ls : Array Slot} {rest : List Value} {nL : Nat} {own : String} {D : va_G} {σ : St} {cI cZ : ClassId} {ad : Nat → Nat} {index : Nat} {sh : Int} (hD : ∀ τ, va_D (AD ad 45) (wsX cI ad τ)) (hB : Bd σ) (hsh : 0 ≤ sh ∧ sh ≤ 5) (J : Jx p m c cc nL s args own D [(cI, .int), (cZ, .boolean)] (AD ad 45) (wsX cI ad)) (hw : jW D (AD ad 45) s.heap (wsX cI ad σ) H locs) (hsz : ls.size = nL) (hlk : Cond.methodLink own index yX5_take ∈ TBw) (hR : 3 ≤ R.frames ∧ 69 ≤ R.locals) (hroom : (rest.map fun v => v.category).sum ≤ 8) (hdg : decode cc pc = .ok (.invokevirtual index, 3)) (kk : ∀ (H1 : Heap) (locs1 : List Loc), jW D (AD ad 45) s.heap (wsX cI ad (tkS σ sh (σ 18 0 * σ 18 1))) H1 locs1 → W p l e R s m args below meth c H1 locs1 0 0 Q (F0 m (pc + 3) ls rest)) : W p l e R s m args below meth c H locs 0 0 Q (F0 m pc ls (.ref (ad 1) :: .int (I sh) :: .ref (ad 8) :: rest)) := 
  j_callVv J hw (c_X5_take  hD hB hsh) hlk in_X5_take se_X5_take ini_X5 co_X5_take (n := 2) (by decide +kernel) ⟨rfl, rfl, hR.1, hR.2⟩ (j := 8) (ci := 5) rfl rfl rfl rfl hroom hsz ⟨Nat.zero_le _, Nat.zero_le _⟩ rfl hdg (fun τ H1 locs1 hp hw1 => by subst hp; exact kk H1 locs1 hw1)
def rm_X5_makeGap : Room := { frames := 3, cells := 0, slots := 0, locals := 65 }
set_option maxHeartbeats 4000000 in
set_option maxRecDepth 100000 in
theorem c_X5_makeGap {l : Launch} {D : va_G} {cI cZ : ClassId} {ad : Nat → Nat} {σ : St} {sh cl : Int} (hD : ∀ τ, va_D (AD ad 45) (wsX cI ad τ)) (hsh : 0 ≤ sh ∧ sh ≤ 5) (hc : 0 ≤ cl ∧ cl < 120) (hv : -4 ≤ σ 16 (sh * 120 + cl) ∧ σ 16 (sh * 120 + cl) ≤ 400) : JMi l yX5_makeGap cX5_makeGap 4 (some .boolean) rm_X5_makeGap D [(cI, .int), (cZ, .boolean)] (AD ad 45) (wsX cI ad) [.ref (ad 8), .int (I sh), .int (I cl)] σ (fun r τ => r = (if ¬ σ 16 (sh * 120 + cl) = -4 then 1 else 0) ∧ τ = st σ 16 (sh * 120 + cl) (-4)) := by
  refine JMi.of RX5 (by decide +kernel) rfl (Nat.le_of_ble_eq_true rfl) hD ?_
  intro p e s m args below meth c Q J fin H ls hw hl
  generalize ([] : List Loc) = locs at hw ⊢
  have hl : lv_has ls 4 [(0, .ref (ad 8)), (1, .int (I sh)), (2, .int (I cl))] := hl
  refine j_aload_n J dX5_makeGap_0 rfl (lv_at hl 0 rfl) ?_
  refine j_iload_n J dX5_makeGap_1 rfl (lv_at hl 1 rfl) ?_
  refine j_iload_n J dX5_makeGap_2 rfl (lv_at hl 2 rfl) ?_
  refine k_X5_knows (sh := sh) (cl := cl) hD (by omega) (by omega) (hv) J hw hl.1 lk_X5_41 ⟨Nat.le_of_ble_eq_true rfl, Nat.le_of_ble_eq_true rfl⟩ (Nat.le_of_ble_eq_true rfl) dX5_makeGap_3 (fun H locs hw => ?_)
  refine j_istore_n J (lv' := [(3, .int (I (if ¬ σ 16 (sh * 120 + cl) = -4 then 1 else 0))), (0, .ref (ad 8)), (1, .int (I sh)), (2, .int (I cl))]) hl dX5_makeGap_6 rfl (by decide) rfl (fun ls hl => ?_)
  refine j_aload_n J dX5_makeGap_7 rfl (lv_at hl 1 rfl) ?_
  refine j_iload_n J dX5_makeGap_8 rfl (lv_at hl 2 rfl) ?_
  refine j_iload_n J dX5_makeGap_9 rfl (lv_at hl 3 rfl) ?_
  refine j_bipush J (-4) dX5_makeGap_10 (by decide) ?_
  refine k_X5_write (sh := sh) (cl := cl) (v := -4) hD (by omega) (by omega) J hw hl.1 lk_X5_54 ⟨Nat.le_of_ble_eq_true rfl, Nat.le_of_ble_eq_true rfl⟩ (Nat.le_of_ble_eq_true rfl) dX5_makeGap_12 (fun H locs hw => ?_)
  refine j_iload_n J dX5_makeGap_15 rfl (lv_at hl 0 rfl) ?_
  exact fin _ _ _ _ _ _ dX5_makeGap_16 (by split <;> rfl) (⟨rfl, rfl⟩) hw
theorem k_X5_makeGap {p : Program} {l : Launch} {e : Env} {R : Room} {s : State} {m : MethodId} {args : Array Value} {below : List Frame} {meth : Method} {c : Code} {H : Heap} {locs : List Loc} {Q : State → Prop} {cc : ByteArray} {pc : Nat} {ls : Array Slot} {rest : List Value} {nL : Nat} {own : String} {D : va_G} {σ : St} {cI cZ : ClassId} {ad : Nat → Nat} {index : Nat} {sh cl : Int} (hD : ∀ τ, va_D (AD ad 45) (wsX cI ad τ)) (hsh : 0 ≤ sh ∧ sh ≤ 5) (hc : 0 ≤ cl ∧ cl < 120) (hv : -4 ≤ σ 16 (sh * 120 + cl) ∧ σ 16 (sh * 120 + cl) ≤ 400) (J : Jx p m c cc nL s args own D [(cI, .int), (cZ, .boolean)] (AD ad 45) (wsX cI ad)) (hw : jW D (AD ad 45) s.heap (wsX cI ad σ) H locs) (hsz : ls.size = nL) (hlk : Cond.methodLink own index yX5_makeGap ∈ TBw) (hR : 4 ≤ R.frames ∧ 88 ≤ R.locals) (hroom : (rest.map fun v => v.category).sum ≤ 8) (hdg : decode cc pc = .ok (.invokevirtual index, 3)) (kk : ∀ (H1 : Heap) (locs1 : List Loc), jW D (AD ad 45) s.heap (wsX cI ad (st σ 16 (sh * 120 + cl) (-4))) H1 locs1 → W p l e R s m args below meth c H1 locs1 0 0 Q (F0 m (pc + 3) ls (.int (I (if ¬ σ 16 (sh * 120 + cl) = -4 then 1 else 0)) :: rest))) : W p l e R s m args below meth c H locs 0 0 Q (F0 m pc ls (.int (I cl) :: .int (I sh) :: .ref (ad 8) :: rest)) := 
  j_callVi J hw (c_X5_makeGap  hD hsh hc hv) hlk in_X5_makeGap se_X5_makeGap ini_X5 co_X5_makeGap (n := 2) (by decide +kernel) ⟨rfl, rfl, hR.1, hR.2⟩ (j := 8) (ci := 5) rfl rfl rfl rfl hroom hsz ⟨Nat.zero_le _, Nat.zero_le _⟩ rfl hdg (fun r τ H1 locs1 hp hw1 => by obtain ⟨rfl, rfl⟩ := hp; exact kk H1 locs1 hw1)
def rm_X5_fillGaps : Room := { frames := 3, cells := 0, slots := 0, locals := 65 }
set_option maxHeartbeats 4000000 in
set_option maxRecDepth 100000 in
theorem c_X5_fillGaps {l : Launch} {D : va_G} {cI cZ : ClassId} {ad : Nat → Nat} {σ : St} {sh tt cn : Int} (hD : ∀ τ, va_D (AD ad 45) (wsX cI ad τ)) (hB : Bd σ) (hsh : 0 ≤ sh ∧ sh ≤ 5) (htt : 0 ≤ tt ∧ tt ≤ 5) (hn : 0 ≤ cn ∧ cn ≤ 120) : JMi l yX5_fillGaps cX5_fillGaps 6 (some .int) rm_X5_fillGaps D [(cI, .int), (cZ, .boolean)] (AD ad 45) (wsX cI ad) [.ref (ad 8), .int (I sh), .int (I tt), .int (I cn)] σ (fun r τ => r = (sumI (fun c => if σ 16 (sh * 120 + c) = -4 ∧ ¬ σ 16 (tt * 120 + c) = -4 then 1 else 0) cn) ∧ τ = jnS σ sh tt cn) := by
  refine JMi.of RX5 (by decide +kernel) rfl (Nat.le_of_ble_eq_true rfl) hD ?_
  intro p e s m args below meth c Q J fin H ls hw hl
  generalize ([] : List Loc) = locs at hw ⊢
  have hl : lv_has ls 6 [(0, .ref (ad 8)), (1, .int (I sh)), (2, .int (I tt)), (3, .int (I cn))] := hl
  refine j_iconst J (0) dX5_fillGaps_0 ?_
  refine j_istore J (lv' := [(4, .int (I 0)), (0, .ref (ad 8)), (1, .int (I sh)), (2, .int (I tt)), (3, .int (I cn))]) hl dX5_fillGaps_1 (by decide) rfl (fun ls hl => ?_)
  refine j_iconst J (0) dX5_fillGaps_3 ?_
  refine j_istore J (lv' := [(5, .int (I 0)), (4, .int (I 0)), (0, .ref (ad 8)), (1, .int (I sh)), (2, .int (I tt)), (3, .int (I cn))]) hl dX5_fillGaps_4 (by decide) rfl (fun ls hl => ?_)
  have L6 : ∀ n : Nat, ∀ (τ : St) (g : Int) (i : Int), (0 ≤ i ∧ i ≤ cn) → (τ = jnS σ sh tt i) → (g = sumI (fun c => if σ 16 (sh * 120 + c) = -4 ∧ ¬ σ 16 (tt * 120 + c) = -4 then 1 else 0) i) → ((cn - i).toNat) < n → ∀ (H : Heap) (locs : List Loc) (ls : Array Slot), jW D (AD ad 45) s.heap (wsX cI ad τ) H locs → lv_has ls 6 [(5, .int (I i)), (0, .ref (ad 8)), (1, .int (I sh)), (2, .int (I tt)), (3, .int (I cn)), (4, .int (I g))] → W p l e rm_X5_fillGaps s m args below meth c H locs 0 0 Q (F0 m 6 ls []) := by
    intro n
    induction n with
    | zero =>
      intro τ g i hi0 hτ hs hm H locs ls hw hl
      exact absurd hm (Nat.not_lt_zero _)
    | succ n ih =>
      intro τ g i hi0 hτ hs hm H locs ls hw hl
      have ih6 := ih
      refine j_iload J dX5_fillGaps_6 (lv_at hl 0 rfl) ?_
      refine j_iload_n J dX5_fillGaps_8 rfl (lv_at hl 4 rfl) ?_
      refine j_icmp_ge J 55 (show rg i by unfold rg; omega) (show rg cn by unfold rg; omega) dX5_fillGaps_9 (by decide) (fun (h_1 : cn ≤ i) => ?_) (fun (h_1 : i < cn) => ?_)
      · refine j_iload J dX5_fillGaps_55 (lv_at hl 5 rfl) ?_
        exact fin _ _ _ _ _ _ dX5_fillGaps_57 rfl (⟨by rw [hs, show i = cn by omega], by rw [hτ, show i = cn by omega]⟩) hw
      · have e1 : τ 16 (sh * 120 + i) = σ 16 (sh * 120 + i) := by rw [hτ]; exact jn_at1
        have e2 : τ 16 (tt * 120 + i) = σ 16 (tt * 120 + i) := by rw [hτ]; exact jn_at2 (by omega)
        have b1 := hB.sheet (sh * 120 + i); have b2 := hB.sheet (tt * 120 + i)
        refine j_aload_n J dX5_fillGaps_12 rfl (lv_at hl 1 rfl) ?_
        refine j_iload_n J dX5_fillGaps_13 rfl (lv_at hl 2 rfl) ?_
        refine j_iload J dX5_fillGaps_14 (lv_at hl 0 rfl) ?_
        refine k_X5_knows (sh := sh) (cl := i) hD (by omega) (by omega) (by omega) J hw hl.1 lk_X5_41 ⟨Nat.le_of_ble_eq_true rfl, Nat.le_of_ble_eq_true rfl⟩ (Nat.le_of_ble_eq_true rfl) dX5_fillGaps_16 (fun H locs hw => ?_)
        refine j_ifneB J 49 dX5_fillGaps_19 (by decide) (fun (h_2 : ¬ τ 16 (sh * 120 + i) = -4) => ?_) (fun (h_2 : ¬ (¬ τ 16 (sh * 120 + i) = -4)) => ?_)
        · refine j_iinc J (lv' := [(5, .int (I (i + 1))), (0, .ref (ad 8)), (1, .int (I sh)), (2, .int (I tt)), (3, .int (I cn)), (4, .int (I g))]) (k := 0) hl dX5_fillGaps_49 rfl (by decide) rfl (fun ls hl => ?_)
          refine j_goto J 6 dX5_fillGaps_52 (by decide) ?_
          exact ih6 τ g (i + 1) (by omega) (by first | exact jn_yes hi0.1 hτ (by omega) (by omega) e2 | exact jn_no hi0.1 hτ (by omega)) (by have hs9 := sumI_step (f := (fun c => if σ 16 (sh * 120 + c) = -4 ∧ ¬ σ 16 (tt * 120 + c) = -4 then 1 else 0)) hi0.1; (try dsimp only at hs9); (try split at hs9) <;> omega) (by omega) _ _ _ hw (lv_sub hl [0, 1, 2, 3, 4, 5] rfl)
        · refine j_aload_n J dX5_fillGaps_22 rfl (lv_at hl 1 rfl) ?_
          refine j_iload_n J dX5_fillGaps_23 rfl (lv_at hl 3 rfl) ?_
          refine j_iload J dX5_fillGaps_24 (lv_at hl 0 rfl) ?_
          refine k_X5_knows (sh := tt) (cl := i) hD (by omega) (by omega) (by omega) J hw hl.1 lk_X5_41 ⟨Nat.le_of_ble_eq_true rfl, Nat.le_of_ble_eq_true rfl⟩ (Nat.le_of_ble_eq_true rfl) dX5_fillGaps_26 (fun H locs hw => ?_)
          refine j_ifeqB J 49 dX5_fillGaps_29 (by decide) (fun (h_3 : ¬ (¬ τ 16 (tt * 120 + i) = -4)) => ?_) (fun (h_3 : ¬ τ 16 (tt * 120 + i) = -4) => ?_)
          · refine j_iinc J (lv' := [(5, .int (I (i + 1))), (0, .ref (ad 8)), (1, .int (I sh)), (2, .int (I tt)), (3, .int (I cn)), (4, .int (I g))]) (k := 0) hl dX5_fillGaps_49 rfl (by decide) rfl (fun ls hl => ?_)
            refine j_goto J 6 dX5_fillGaps_52 (by decide) ?_
            exact ih6 τ g (i + 1) (by omega) (by first | exact jn_yes hi0.1 hτ (by omega) (by omega) e2 | exact jn_no hi0.1 hτ (by omega)) (by have hs9 := sumI_step (f := (fun c => if σ 16 (sh * 120 + c) = -4 ∧ ¬ σ 16 (tt * 120 + c) = -4 then 1 else 0)) hi0.1; (try dsimp only at hs9); (try split at hs9) <;> omega) (by omega) _ _ _ hw (lv_sub hl [0, 1, 2, 3, 4, 5] rfl)
          · refine j_aload_n J dX5_fillGaps_32 rfl (lv_at hl 1 rfl) ?_
            refine j_iload_n J dX5_fillGaps_33 rfl (lv_at hl 2 rfl) ?_
            refine j_iload J dX5_fillGaps_34 (lv_at hl 0 rfl) ?_
            refine j_aload_n J dX5_fillGaps_36 rfl (lv_at hl 1 rfl) ?_
            refine j_iload_n J dX5_fillGaps_37 rfl (lv_at hl 3 rfl) ?_
            refine j_iload J dX5_fillGaps_38 (lv_at hl 0 rfl) ?_
            refine k_X5_read (sh := tt) (cl := i) hD (by omega) (by omega) J hw hl.1 lk_X5_38 ⟨Nat.le_of_ble_eq_true rfl, Nat.le_of_ble_eq_true rfl⟩ (Nat.le_of_ble_eq_true rfl) dX5_fillGaps_40 (fun H locs hw => ?_)
            refine k_X5_write (sh := sh) (cl := i) (v := τ 16 (tt * 120 + i)) hD (by omega) (by omega) J hw hl.1 lk_X5_54 ⟨Nat.le_of_ble_eq_true rfl, Nat.le_of_ble_eq_true rfl⟩ (Nat.le_of_ble_eq_true rfl) dX5_fillGaps_43 (fun H locs hw => ?_)
            refine j_iinc J (lv' := [(4, .int (I (g + 1))), (5, .int (I i)), (0, .ref (ad 8)), (1, .int (I sh)), (2, .int (I tt)), (3, .int (I cn))]) (k := 5) hl dX5_fillGaps_46 rfl (by decide) rfl (fun ls hl => ?_)
            refine j_iinc J (lv' := [(5, .int (I (i + 1))), (4, .int (I (g + 1))), (0, .ref (ad 8)), (1, .int (I sh)), (2, .int (I tt)), (3, .int (I cn))]) (k := 1) hl dX5_fillGaps_49 rfl (by decide) rfl (fun ls hl => ?_)
            refine j_goto J 6 dX5_fillGaps_52 (by decide) ?_
            exact ih6 (st τ 16 (sh * 120 + i) (τ 16 (tt * 120 + i))) (g + 1) (i + 1) (by omega) (by first | exact jn_yes hi0.1 hτ (by omega) (by omega) e2 | exact jn_no hi0.1 hτ (by omega)) (by have hs9 := sumI_step (f := (fun c => if σ 16 (sh * 120 + c) = -4 ∧ ¬ σ 16 (tt * 120 + c) = -4 then 1 else 0)) hi0.1; (try dsimp only at hs9); (try split at hs9) <;> omega) (by omega) _ _ _ hw (lv_sub hl [0, 2, 3, 4, 5, 1] rfl)
  exact L6 _ σ 0 0 (by omega) (jnS_0.symm) (sumI_0.symm) (Nat.lt_succ_self _) _ _ _ hw (lv_sub hl [0, 2, 3, 4, 5, 1] rfl)
theorem k_X5_fillGaps {p : Program} {l : Launch} {e : Env} {R : Room} {s : State} {m : MethodId} {args : Array Value} {below : List Frame} {meth : Method} {c : Code} {H : Heap} {locs : List Loc} {Q : State → Prop} {cc : ByteArray} {pc : Nat} {ls : Array Slot} {rest : List Value} {nL : Nat} {own : String} {D : va_G} {σ : St} {cI cZ : ClassId} {ad : Nat → Nat} {index : Nat} {sh tt cn : Int} (hD : ∀ τ, va_D (AD ad 45) (wsX cI ad τ)) (hB : Bd σ) (hsh : 0 ≤ sh ∧ sh ≤ 5) (htt : 0 ≤ tt ∧ tt ≤ 5) (hn : 0 ≤ cn ∧ cn ≤ 120) (J : Jx p m c cc nL s args own D [(cI, .int), (cZ, .boolean)] (AD ad 45) (wsX cI ad)) (hw : jW D (AD ad 45) s.heap (wsX cI ad σ) H locs) (hsz : ls.size = nL) (hlk : Cond.methodLink own index yX5_fillGaps ∈ TBw) (hR : 4 ≤ R.frames ∧ 90 ≤ R.locals) (hroom : (rest.map fun v => v.category).sum ≤ 8) (hdg : decode cc pc = .ok (.invokevirtual index, 3)) (kk : ∀ (H1 : Heap) (locs1 : List Loc), jW D (AD ad 45) s.heap (wsX cI ad (jnS σ sh tt cn)) H1 locs1 → W p l e R s m args below meth c H1 locs1 0 0 Q (F0 m (pc + 3) ls (.int (I (sumI (fun c => if σ 16 (sh * 120 + c) = -4 ∧ ¬ σ 16 (tt * 120 + c) = -4 then 1 else 0) cn)) :: rest))) : W p l e R s m args below meth c H locs 0 0 Q (F0 m pc ls (.int (I cn) :: .int (I tt) :: .int (I sh) :: .ref (ad 8) :: rest)) := 
  j_callVi J hw (c_X5_fillGaps  hD hB hsh htt hn) hlk in_X5_fillGaps se_X5_fillGaps ini_X5 co_X5_fillGaps (n := 3) (by decide +kernel) ⟨rfl, rfl, hR.1, hR.2⟩ (j := 8) (ci := 5) rfl rfl rfl rfl hroom hsz ⟨Nat.zero_le _, Nat.zero_le _⟩ rfl hdg (fun r τ H1 locs1 hp hw1 => by obtain ⟨rfl, rfl⟩ := hp; exact kk H1 locs1 hw1)
def rm_X5_volume : Room := { frames := 4, cells := 0, slots := 0, locals := 88 }
set_option maxHeartbeats 4000000 in
set_option maxRecDepth 100000 in
theorem c_X5_volume {l : Launch} {D : va_G} {cI cZ : ClassId} {ad : Nat → Nat} {σ : St} {sh tt cn : Int} (hD : ∀ τ, va_D (AD ad 45) (wsX cI ad τ)) (hB : Bd σ) (hsh : 0 ≤ sh ∧ sh ≤ 5) (htt : 0 ≤ tt ∧ tt ≤ 5) (hn : 0 ≤ cn ∧ cn ≤ 120) : JMi l yX5_volume cX5_volume 6 (some .int) rm_X5_volume D [(cI, .int), (cZ, .boolean)] (AD ad 45) (wsX cI ad) [.ref (ad 8), .int (I sh), .int (I tt), .int (I cn)] σ (fun r τ => r = (sumI (fun c => if (¬ σ 16 (sh * 120 + c) = -4 ∧ ¬ σ 16 (tt * 120 + c) = -4) then σ 16 (tt * 120 + c) - σ 16 (sh * 120 + c) else 0) cn) ∧ τ = σ) := by
  refine JMi.of RX5 (by decide +kernel) rfl (Nat.le_of_ble_eq_true rfl) hD ?_
  intro p e s m args below meth c Q J fin H ls hw hl
  generalize ([] : List Loc) = locs at hw ⊢
  have hl : lv_has ls 6 [(0, .ref (ad 8)), (1, .int (I sh)), (2, .int (I tt)), (3, .int (I cn))] := hl
  refine j_iconst J (0) dX5_volume_0 ?_
  refine j_istore J (lv' := [(4, .int (I 0)), (0, .ref (ad 8)), (1, .int (I sh)), (2, .int (I tt)), (3, .int (I cn))]) hl dX5_volume_1 (by decide) rfl (fun ls hl => ?_)
  refine j_iconst J (0) dX5_volume_3 ?_
  refine j_istore J (lv' := [(5, .int (I 0)), (4, .int (I 0)), (0, .ref (ad 8)), (1, .int (I sh)), (2, .int (I tt)), (3, .int (I cn))]) hl dX5_volume_4 (by decide) rfl (fun ls hl => ?_)
  have L6 : ∀ n : Nat, ∀ (g : Int) (i : Int), (0 ≤ i ∧ i ≤ cn) → (g = sumI (fun c => if (¬ σ 16 (sh * 120 + c) = -4 ∧ ¬ σ 16 (tt * 120 + c) = -4) then σ 16 (tt * 120 + c) - σ 16 (sh * 120 + c) else 0) i) → ((cn - i).toNat) < n → ∀ (H : Heap) (locs : List Loc) (ls : Array Slot), jW D (AD ad 45) s.heap (wsX cI ad σ) H locs → lv_has ls 6 [(5, .int (I i)), (0, .ref (ad 8)), (1, .int (I sh)), (2, .int (I tt)), (3, .int (I cn)), (4, .int (I g))] → W p l e rm_X5_volume s m args below meth c H locs 0 0 Q (F0 m 6 ls []) := by
    intro n
    induction n with
    | zero =>
      intro g i hi0 hs hm H locs ls hw hl
      exact absurd hm (Nat.not_lt_zero _)
    | succ n ih =>
      intro g i hi0 hs hm H locs ls hw hl
      have ih6 := ih
      refine j_iload J dX5_volume_6 (lv_at hl 0 rfl) ?_
      refine j_iload_n J dX5_volume_8 rfl (lv_at hl 4 rfl) ?_
      refine j_icmp_ge J 49 (show rg i by unfold rg; omega) (show rg cn by unfold rg; omega) dX5_volume_9 (by decide) (fun (h_1 : cn ≤ i) => ?_) (fun (h_1 : i < cn) => ?_)
      · refine j_iload J dX5_volume_49 (lv_at hl 5 rfl) ?_
        exact fin _ _ _ _ _ _ dX5_volume_51 rfl (⟨by rw [hs, show i = cn by omega], rfl⟩) hw
      · refine j_aload_n J dX5_volume_12 rfl (lv_at hl 1 rfl) ?_
        refine j_iload_n J dX5_volume_13 rfl (lv_at hl 2 rfl) ?_
        refine j_iload_n J dX5_volume_14 rfl (lv_at hl 3 rfl) ?_
        refine j_iload J dX5_volume_15 (lv_at hl 0 rfl) ?_
        refine k_X5_bothKnow (sh := sh) (tt := tt) (cl := i) hD (by omega) (by omega) (by omega) (hB.sheet _) (hB.sheet _) J hw hl.1 lk_X5_58 ⟨Nat.le_of_ble_eq_true rfl, Nat.le_of_ble_eq_true rfl⟩ (Nat.le_of_ble_eq_true rfl) dX5_volume_17 (fun H locs hw => ?_)
        refine j_ifeqB J 43 dX5_volume_20 (by decide) (fun (h_2 : ¬ (¬ σ 16 (sh * 120 + i) = -4 ∧ ¬ σ 16 (tt * 120 + i) = -4)) => ?_) (fun (h_2 : ¬ σ 16 (sh * 120 + i) = -4 ∧ ¬ σ 16 (tt * 120 + i) = -4) => ?_)
        · refine j_iinc J (lv' := [(5, .int (I (i + 1))), (0, .ref (ad 8)), (1, .int (I sh)), (2, .int (I tt)), (3, .int (I cn)), (4, .int (I g))]) (k := 0) hl dX5_volume_43 rfl (by decide) rfl (fun ls hl => ?_)
          refine j_goto J 6 dX5_volume_46 (by decide) ?_
          exact ih6 g (i + 1) (by omega) (by have hs9 := sumI_step (f := (fun c => if (¬ σ 16 (sh * 120 + c) = -4 ∧ ¬ σ 16 (tt * 120 + c) = -4) then σ 16 (tt * 120 + c) - σ 16 (sh * 120 + c) else 0)) hi0.1; (try dsimp only at hs9); (try split at hs9) <;> omega) (by omega) _ _ _ hw (lv_sub hl [0, 1, 2, 3, 4, 5] rfl)
        · refine j_iload J dX5_volume_23 (lv_at hl 5 rfl) ?_
          refine j_aload_n J dX5_volume_25 rfl (lv_at hl 1 rfl) ?_
          refine j_iload_n J dX5_volume_26 rfl (lv_at hl 3 rfl) ?_
          refine j_iload J dX5_volume_27 (lv_at hl 0 rfl) ?_
          refine k_X5_read (sh := tt) (cl := i) hD (by omega) (by omega) J hw hl.1 lk_X5_38 ⟨Nat.le_of_ble_eq_true rfl, Nat.le_of_ble_eq_true rfl⟩ (Nat.le_of_ble_eq_true rfl) dX5_volume_29 (fun H locs hw => ?_)
          refine j_aload_n J dX5_volume_32 rfl (lv_at hl 1 rfl) ?_
          refine j_iload_n J dX5_volume_33 rfl (lv_at hl 2 rfl) ?_
          refine j_iload J dX5_volume_34 (lv_at hl 0 rfl) ?_
          refine k_X5_read (sh := sh) (cl := i) hD (by omega) (by omega) J hw hl.1 lk_X5_38 ⟨Nat.le_of_ble_eq_true rfl, Nat.le_of_ble_eq_true rfl⟩ (Nat.le_of_ble_eq_true rfl) dX5_volume_36 (fun H locs hw => ?_)
          refine j_isub J dX5_volume_39 ?_
          refine j_iadd J dX5_volume_40 ?_
          refine j_istore J (lv' := [(4, .int (I (g + ((σ 16 (tt * 120 + i)) - (σ 16 (sh * 120 + i)))))), (5, .int (I i)), (0, .ref (ad 8)), (1, .int (I sh)), (2, .int (I tt)), (3, .int (I cn))]) hl dX5_volume_41 (by decide) rfl (fun ls hl => ?_)
          refine j_iinc J (lv' := [(5, .int (I (i + 1))), (4, .int (I (g + ((σ 16 (tt * 120 + i)) - (σ 16 (sh * 120 + i)))))), (0, .ref (ad 8)), (1, .int (I sh)), (2, .int (I tt)), (3, .int (I cn))]) (k := 1) hl dX5_volume_43 rfl (by decide) rfl (fun ls hl => ?_)
          refine j_goto J 6 dX5_volume_46 (by decide) ?_
          exact ih6 (g + ((σ 16 (tt * 120 + i)) - (σ 16 (sh * 120 + i)))) (i + 1) (by omega) (by have hs9 := sumI_step (f := (fun c => if (¬ σ 16 (sh * 120 + c) = -4 ∧ ¬ σ 16 (tt * 120 + c) = -4) then σ 16 (tt * 120 + c) - σ 16 (sh * 120 + c) else 0)) hi0.1; (try dsimp only at hs9); (try split at hs9) <;> omega) (by omega) _ _ _ hw (lv_sub hl [0, 2, 3, 4, 5, 1] rfl)
  exact L6 _ 0 0 (by omega) (sumI_0.symm) (Nat.lt_succ_self _) _ _ _ hw (lv_sub hl [0, 2, 3, 4, 5, 1] rfl)
theorem k_X5_volume {p : Program} {l : Launch} {e : Env} {R : Room} {s : State} {m : MethodId} {args : Array Value} {below : List Frame} {meth : Method} {c : Code} {H : Heap} {locs : List Loc} {Q : State → Prop} {cc : ByteArray} {pc : Nat} {ls : Array Slot} {rest : List Value} {nL : Nat} {own : String} {D : va_G} {σ : St} {cI cZ : ClassId} {ad : Nat → Nat} {index : Nat} {sh tt cn : Int} (hD : ∀ τ, va_D (AD ad 45) (wsX cI ad τ)) (hB : Bd σ) (hsh : 0 ≤ sh ∧ sh ≤ 5) (htt : 0 ≤ tt ∧ tt ≤ 5) (hn : 0 ≤ cn ∧ cn ≤ 120) (J : Jx p m c cc nL s args own D [(cI, .int), (cZ, .boolean)] (AD ad 45) (wsX cI ad)) (hw : jW D (AD ad 45) s.heap (wsX cI ad σ) H locs) (hsz : ls.size = nL) (hlk : Cond.methodLink own index yX5_volume ∈ TBw) (hR : 5 ≤ R.frames ∧ 113 ≤ R.locals) (hroom : (rest.map fun v => v.category).sum ≤ 8) (hdg : decode cc pc = .ok (.invokevirtual index, 3)) (kk : ∀ (H1 : Heap) (locs1 : List Loc), jW D (AD ad 45) s.heap (wsX cI ad σ) H1 locs1 → W p l e R s m args below meth c H1 locs1 0 0 Q (F0 m (pc + 3) ls (.int (I (sumI (fun c => if (¬ σ 16 (sh * 120 + c) = -4 ∧ ¬ σ 16 (tt * 120 + c) = -4) then σ 16 (tt * 120 + c) - σ 16 (sh * 120 + c) else 0) cn)) :: rest))) : W p l e R s m args below meth c H locs 0 0 Q (F0 m pc ls (.int (I cn) :: .int (I tt) :: .int (I sh) :: .ref (ad 8) :: rest)) := 
  j_callVi J hw (c_X5_volume  hD hB hsh htt hn) hlk in_X5_volume se_X5_volume ini_X5 co_X5_volume (n := 3) (by decide +kernel) ⟨rfl, rfl, hR.1, hR.2⟩ (j := 8) (ci := 5) rfl rfl rfl rfl hroom hsz ⟨Nat.zero_le _, Nat.zero_le _⟩ rfl hdg (fun r τ H1 locs1 hp hw1 => by obtain ⟨rfl, rfl⟩ := hp; exact kk H1 locs1 hw1)
def rm_X5_pay : Room := { frames := 4, cells := 0, slots := 0, locals := 88 }
set_option maxHeartbeats 4000000 in
set_option maxRecDepth 100000 in
theorem c_X5_pay {l : Launch} {D : va_G} {cI cZ : ClassId} {ad : Nat → Nat} {σ : St} {sh tt ov : Int} (hD : ∀ τ, va_D (AD ad 45) (wsX cI ad τ)) (hB : Bd σ) (hsh : 0 ≤ sh ∧ sh ≤ 5) (htt : 0 ≤ tt ∧ tt ≤ 5) (ho : 0 ≤ ov ∧ ov ≤ 50) : JMi l yX5_pay cX5_pay 8 (some .int) rm_X5_pay D [(cI, .int), (cZ, .boolean)] (AD ad 45) (wsX cI ad) [.ref (ad 8), .int (I sh), .int (I tt), .ref (ad 1), .int (I ov)] σ (fun r τ => r = (sumI (fun c => if 0 < σ 2 c ∧ (¬ σ 16 (sh * 120 + c) = -4 ∧ ¬ σ 16 (tt * 120 + c) = -4) ∧ σ 2 c ≤ σ 16 (tt * 120 + c) then max 0 (min (σ 16 (tt * 120 + c)) (σ 2 c + ov) - σ 16 (sh * 120 + c)) else 0) (σ 18 0 * σ 18 1)) ∧ τ = σ) := by
  refine JMi.of RX5 (by decide +kernel) rfl (Nat.le_of_ble_eq_true rfl) hD ?_
  intro p e s m args below meth c Q J fin H ls hw hl
  generalize ([] : List Loc) = locs at hw ⊢
  have hl : lv_has ls 8 [(0, .ref (ad 8)), (1, .int (I sh)), (2, .int (I tt)), (3, .ref (ad 1)), (4, .int (I ov))] := hl
  have hd : Dim _ := hB.dim
  have hd1 := hd.1; have hd2 := hd.2.1; have hd3 := hd.2.2.1; have hd4 := hd.2.2.2; have hm := hd.mul
  refine j_iconst J (0) dX5_pay_0 ?_
  refine j_istore J (lv' := [(5, .int (I 0)), (0, .ref (ad 8)), (1, .int (I sh)), (2, .int (I tt)), (3, .ref (ad 1)), (4, .int (I ov))]) hl dX5_pay_1 (by decide) rfl (fun ls hl => ?_)
  refine j_iconst J (0) dX5_pay_3 ?_
  refine j_istore J (lv' := [(6, .int (I 0)), (5, .int (I 0)), (0, .ref (ad 8)), (1, .int (I sh)), (2, .int (I tt)), (3, .ref (ad 1)), (4, .int (I ov))]) hl dX5_pay_4 (by decide) rfl (fun ls hl => ?_)
  have L6 : ∀ n : Nat, ∀ (g : Int) (i : Int), (0 ≤ i ∧ i ≤ σ 18 0 * σ 18 1) → (g = sumI (fun c => if 0 < σ 2 c ∧ (¬ σ 16 (sh * 120 + c) = -4 ∧ ¬ σ 16 (tt * 120 + c) = -4) ∧ σ 2 c ≤ σ 16 (tt * 120 + c) then max 0 (min (σ 16 (tt * 120 + c)) (σ 2 c + ov) - σ 16 (sh * 120 + c)) else 0) i) → ((σ 18 0 * σ 18 1 - i).toNat) < n → ∀ (H : Heap) (locs : List Loc) (ls : Array Slot), jW D (AD ad 45) s.heap (wsX cI ad σ) H locs → lv_has ls 8 [(6, .int (I i)), (0, .ref (ad 8)), (1, .int (I sh)), (2, .int (I tt)), (3, .ref (ad 1)), (4, .int (I ov)), (5, .int (I g))] → W p l e rm_X5_pay s m args below meth c H locs 0 0 Q (F0 m 6 ls []) := by
    intro n
    induction n with
    | zero =>
      intro g i hi0 hs hm H locs ls hw hl
      exact absurd hm (Nat.not_lt_zero _)
    | succ n ih =>
      intro g i hi0 hs hm H locs ls hw hl
      have ih6 := ih
      refine j_iload J dX5_pay_6 (lv_at hl 0 rfl) ?_
      refine j_aload_n J dX5_pay_8 rfl (lv_at hl 4 rfl) ?_
      refine k_X1_size  hD  J hw hl.1 lk_X5_45 ⟨Nat.le_of_ble_eq_true rfl, Nat.le_of_ble_eq_true rfl⟩ (Nat.le_of_ble_eq_true rfl) dX5_pay_9 (fun H locs hw => ?_)
      refine j_icmp_ge J 92 (show rg i by unfold rg; omega) (show rg (σ 18 0 * σ 18 1) by unfold rg; omega) dX5_pay_12 (by decide) (fun (h_1 : (σ 18 0 * σ 18 1) ≤ i) => ?_) (fun (h_1 : i < (σ 18 0 * σ 18 1)) => ?_)
      · refine j_iload J dX5_pay_92 (lv_at hl 6 rfl) ?_
        exact fin _ _ _ _ _ _ dX5_pay_94 rfl (⟨by rw [hs, show i = σ 18 0 * σ 18 1 by omega], rfl⟩) hw
      · refine j_aload_n J dX5_pay_15 rfl (lv_at hl 4 rfl) ?_
        refine xg_1_1 J hw lk_X5_61 dX5_pay_16 ?_
        refine j_iload J dX5_pay_19 (lv_at hl 0 rfl) ?_
        refine k_X2_get (k := 2) (i := i) hD (by decide) (show 0 ≤ i ∧ i < ((120 : Nat) : Int) from by omega) J hw hl.1 lk_X5_30 ⟨Nat.le_of_ble_eq_true rfl, Nat.le_of_ble_eq_true rfl⟩ (Nat.le_of_ble_eq_true rfl) dX5_pay_21 (fun H locs hw => ?_)
        have b0 := hB.design i; have b1 := hB.sheet (sh * 120 + i); have b2 := hB.sheet (tt * 120 + i)
        refine j_istore J (lv' := [(7, .int (I (σ 2 i))), (6, .int (I i)), (0, .ref (ad 8)), (1, .int (I sh)), (2, .int (I tt)), (3, .ref (ad 1)), (4, .int (I ov)), (5, .int (I g))]) hl dX5_pay_24 (by decide) rfl (fun ls hl => ?_)
        refine j_iload J dX5_pay_26 (lv_at hl 0 rfl) ?_
        refine j_if_le J 86 (show rg (σ 2 i) by unfold rg; omega) dX5_pay_28 (by decide) (fun (h_2 : (σ 2 i) ≤ 0) => ?_) (fun (h_2 : 0 < (σ 2 i)) => ?_)
        · refine j_iinc J (lv' := [(6, .int (I (i + 1))), (7, .int (I (σ 2 i))), (0, .ref (ad 8)), (1, .int (I sh)), (2, .int (I tt)), (3, .ref (ad 1)), (4, .int (I ov)), (5, .int (I g))]) (k := 1) hl dX5_pay_86 rfl (by decide) rfl (fun ls hl => ?_)
          refine j_goto J 6 dX5_pay_89 (by decide) ?_
          exact ih6 g (i + 1) (by omega) (by have hs9 := sumI_step (f := (fun c => if 0 < σ 2 c ∧ (¬ σ 16 (sh * 120 + c) = -4 ∧ ¬ σ 16 (tt * 120 + c) = -4) ∧ σ 2 c ≤ σ 16 (tt * 120 + c) then max 0 (min (σ 16 (tt * 120 + c)) (σ 2 c + ov) - σ 16 (sh * 120 + c)) else 0)) hi0.1; (try dsimp only at hs9); (try split at hs9) <;> omega) (by omega) _ _ _ hw (lv_sub hl [0, 2, 3, 4, 5, 6, 7] rfl)
        · refine j_aload_n J dX5_pay_31 rfl (lv_at hl 2 rfl) ?_
          refine j_iload_n J dX5_pay_32 rfl (lv_at hl 3 rfl) ?_
          refine j_iload_n J dX5_pay_33 rfl (lv_at hl 4 rfl) ?_
          refine j_iload J dX5_pay_34 (lv_at hl 1 rfl) ?_
          refine k_X5_bothKnow (sh := sh) (tt := tt) (cl := i) hD (by omega) (by omega) (by omega) (hB.sheet _) (hB.sheet _) J hw hl.1 lk_X5_58 ⟨Nat.le_of_ble_eq_true rfl, Nat.le_of_ble_eq_true rfl⟩ (Nat.le_of_ble_eq_true rfl) dX5_pay_36 (fun H locs hw => ?_)
          refine j_ifeqB J 86 dX5_pay_39 (by decide) (fun (h_3 : ¬ (¬ σ 16 (sh * 120 + i) = -4 ∧ ¬ σ 16 (tt * 120 + i) = -4)) => ?_) (fun (h_3 : ¬ σ 16 (sh * 120 + i) = -4 ∧ ¬ σ 16 (tt * 120 + i) = -4) => ?_)
          · refine j_iinc J (lv' := [(6, .int (I (i + 1))), (7, .int (I (σ 2 i))), (0, .ref (ad 8)), (1, .int (I sh)), (2, .int (I tt)), (3, .ref (ad 1)), (4, .int (I ov)), (5, .int (I g))]) (k := 1) hl dX5_pay_86 rfl (by decide) rfl (fun ls hl => ?_)
            refine j_goto J 6 dX5_pay_89 (by decide) ?_
            exact ih6 g (i + 1) (by omega) (by have hs9 := sumI_step (f := (fun c => if 0 < σ 2 c ∧ (¬ σ 16 (sh * 120 + c) = -4 ∧ ¬ σ 16 (tt * 120 + c) = -4) ∧ σ 2 c ≤ σ 16 (tt * 120 + c) then max 0 (min (σ 16 (tt * 120 + c)) (σ 2 c + ov) - σ 16 (sh * 120 + c)) else 0)) hi0.1; (try dsimp only at hs9); (try split at hs9) <;> omega) (by omega) _ _ _ hw (lv_sub hl [0, 2, 3, 4, 5, 6, 7] rfl)
          · refine j_aload_n J dX5_pay_42 rfl (lv_at hl 2 rfl) ?_
            refine j_iload_n J dX5_pay_43 rfl (lv_at hl 4 rfl) ?_
            refine j_iload J dX5_pay_44 (lv_at hl 1 rfl) ?_
            refine k_X5_read (sh := tt) (cl := i) hD (by omega) (by omega) J hw hl.1 lk_X5_38 ⟨Nat.le_of_ble_eq_true rfl, Nat.le_of_ble_eq_true rfl⟩ (Nat.le_of_ble_eq_true rfl) dX5_pay_46 (fun H locs hw => ?_)
            refine j_iload J dX5_pay_49 (lv_at hl 0 rfl) ?_
            refine j_icmp_lt J 86 (show rg (σ 16 (tt * 120 + i)) by unfold rg; omega) (show rg (σ 2 i) by unfold rg; omega) dX5_pay_51 (by decide) (fun (h_4 : (σ 16 (tt * 120 + i)) < (σ 2 i)) => ?_) (fun (h_4 : (σ 2 i) ≤ (σ 16 (tt * 120 + i))) => ?_)
            · refine j_iinc J (lv' := [(6, .int (I (i + 1))), (7, .int (I (σ 2 i))), (0, .ref (ad 8)), (1, .int (I sh)), (2, .int (I tt)), (3, .ref (ad 1)), (4, .int (I ov)), (5, .int (I g))]) (k := 1) hl dX5_pay_86 rfl (by decide) rfl (fun ls hl => ?_)
              refine j_goto J 6 dX5_pay_89 (by decide) ?_
              exact ih6 g (i + 1) (by omega) (by have hs9 := sumI_step (f := (fun c => if 0 < σ 2 c ∧ (¬ σ 16 (sh * 120 + c) = -4 ∧ ¬ σ 16 (tt * 120 + c) = -4) ∧ σ 2 c ≤ σ 16 (tt * 120 + c) then max 0 (min (σ 16 (tt * 120 + c)) (σ 2 c + ov) - σ 16 (sh * 120 + c)) else 0)) hi0.1; (try dsimp only at hs9); (try split at hs9) <;> omega) (by omega) _ _ _ hw (lv_sub hl [0, 2, 3, 4, 5, 6, 7] rfl)
            · refine j_iload J dX5_pay_54 (lv_at hl 7 rfl) ?_
              refine j_iconst J (0) dX5_pay_56 ?_
              refine j_aload_n J dX5_pay_57 rfl (lv_at hl 2 rfl) ?_
              refine j_iload_n J dX5_pay_58 rfl (lv_at hl 4 rfl) ?_
              refine j_iload J dX5_pay_59 (lv_at hl 1 rfl) ?_
              refine k_X5_read (sh := tt) (cl := i) hD (by omega) (by omega) J hw hl.1 lk_X5_38 ⟨Nat.le_of_ble_eq_true rfl, Nat.le_of_ble_eq_true rfl⟩ (Nat.le_of_ble_eq_true rfl) dX5_pay_61 (fun H locs hw => ?_)
              refine j_iload J dX5_pay_64 (lv_at hl 0 rfl) ?_
              refine j_iload J dX5_pay_66 (lv_at hl 6 rfl) ?_
              refine j_iadd J dX5_pay_68 ?_
              refine j_min J (show rg (σ 16 (tt * 120 + i)) by unfold rg; omega) (show rg ((σ 2 i) + ov) by unfold rg; omega) hl.1 lk_X5_64 ⟨Nat.le_of_ble_eq_true rfl, Nat.le_of_ble_eq_true rfl, Nat.zero_le _, Nat.zero_le _⟩ dX5_pay_69 ?_
              refine j_aload_n J dX5_pay_72 rfl (lv_at hl 2 rfl) ?_
              refine j_iload_n J dX5_pay_73 rfl (lv_at hl 3 rfl) ?_
              refine j_iload J dX5_pay_74 (lv_at hl 1 rfl) ?_
              refine k_X5_read (sh := sh) (cl := i) hD (by omega) (by omega) J hw hl.1 lk_X5_38 ⟨Nat.le_of_ble_eq_true rfl, Nat.le_of_ble_eq_true rfl⟩ (Nat.le_of_ble_eq_true rfl) dX5_pay_76 (fun H locs hw => ?_)
              refine j_isub J dX5_pay_79 ?_
              refine j_max J (by unfold rg; omega) (show rg ((min (σ 16 (tt * 120 + i)) ((σ 2 i) + ov)) - (σ 16 (sh * 120 + i))) by unfold rg; omega) hl.1 lk_X5_69 ⟨Nat.le_of_ble_eq_true rfl, Nat.le_of_ble_eq_true rfl, Nat.zero_le _, Nat.zero_le _⟩ dX5_pay_80 ?_
              refine j_iadd J dX5_pay_83 ?_
              refine j_istore J (lv' := [(5, .int (I (g + (max 0 ((min (σ 16 (tt * 120 + i)) ((σ 2 i) + ov)) - (σ 16 (sh * 120 + i))))))), (7, .int (I (σ 2 i))), (6, .int (I i)), (0, .ref (ad 8)), (1, .int (I sh)), (2, .int (I tt)), (3, .ref (ad 1)), (4, .int (I ov))]) hl dX5_pay_84 (by decide) rfl (fun ls hl => ?_)
              refine j_iinc J (lv' := [(6, .int (I (i + 1))), (5, .int (I (g + (max 0 ((min (σ 16 (tt * 120 + i)) ((σ 2 i) + ov)) - (σ 16 (sh * 120 + i))))))), (7, .int (I (σ 2 i))), (0, .ref (ad 8)), (1, .int (I sh)), (2, .int (I tt)), (3, .ref (ad 1)), (4, .int (I ov))]) (k := 2) hl dX5_pay_86 rfl (by decide) rfl (fun ls hl => ?_)
              refine j_goto J 6 dX5_pay_89 (by decide) ?_
              exact ih6 (g + (max 0 ((min (σ 16 (tt * 120 + i)) ((σ 2 i) + ov)) - (σ 16 (sh * 120 + i))))) (i + 1) (by omega) (by have hs9 := sumI_step (f := (fun c => if 0 < σ 2 c ∧ (¬ σ 16 (sh * 120 + c) = -4 ∧ ¬ σ 16 (tt * 120 + c) = -4) ∧ σ 2 c ≤ σ 16 (tt * 120 + c) then max 0 (min (σ 16 (tt * 120 + c)) (σ 2 c + ov) - σ 16 (sh * 120 + c)) else 0)) hi0.1; (try dsimp only at hs9); (try split at hs9) <;> omega) (by omega) _ _ _ hw (lv_sub hl [0, 3, 4, 5, 6, 7, 1] rfl)
  exact L6 _ 0 0 (by omega) (sumI_0.symm) (Nat.lt_succ_self _) _ _ _ hw (lv_sub hl [0, 2, 3, 4, 5, 6, 1] rfl)
theorem k_X5_pay {p : Program} {l : Launch} {e : Env} {R : Room} {s : State} {m : MethodId} {args : Array Value} {below : List Frame} {meth : Method} {c : Code} {H : Heap} {locs : List Loc} {Q : State → Prop} {cc : ByteArray} {pc : Nat} {ls : Array Slot} {rest : List Value} {nL : Nat} {own : String} {D : va_G} {σ : St} {cI cZ : ClassId} {ad : Nat → Nat} {index : Nat} {sh tt ov : Int} (hD : ∀ τ, va_D (AD ad 45) (wsX cI ad τ)) (hB : Bd σ) (hsh : 0 ≤ sh ∧ sh ≤ 5) (htt : 0 ≤ tt ∧ tt ≤ 5) (ho : 0 ≤ ov ∧ ov ≤ 50) (J : Jx p m c cc nL s args own D [(cI, .int), (cZ, .boolean)] (AD ad 45) (wsX cI ad)) (hw : jW D (AD ad 45) s.heap (wsX cI ad σ) H locs) (hsz : ls.size = nL) (hlk : Cond.methodLink own index yX5_pay ∈ TBw) (hR : 5 ≤ R.frames ∧ 115 ≤ R.locals) (hroom : (rest.map fun v => v.category).sum ≤ 8) (hdg : decode cc pc = .ok (.invokevirtual index, 3)) (kk : ∀ (H1 : Heap) (locs1 : List Loc), jW D (AD ad 45) s.heap (wsX cI ad σ) H1 locs1 → W p l e R s m args below meth c H1 locs1 0 0 Q (F0 m (pc + 3) ls (.int (I (sumI (fun c => if 0 < σ 2 c ∧ (¬ σ 16 (sh * 120 + c) = -4 ∧ ¬ σ 16 (tt * 120 + c) = -4) ∧ σ 2 c ≤ σ 16 (tt * 120 + c) then max 0 (min (σ 16 (tt * 120 + c)) (σ 2 c + ov) - σ 16 (sh * 120 + c)) else 0) (σ 18 0 * σ 18 1))) :: rest))) : W p l e R s m args below meth c H locs 0 0 Q (F0 m pc ls (.int (I ov) :: .ref (ad 1) :: .int (I tt) :: .int (I sh) :: .ref (ad 8) :: rest)) := 
  j_callVi J hw (c_X5_pay  hD hB hsh htt ho) hlk in_X5_pay se_X5_pay ini_X5 co_X5_pay (n := 4) (by decide +kernel) ⟨rfl, rfl, hR.1, hR.2⟩ (j := 8) (ci := 5) rfl rfl rfl rfl hroom hsz ⟨Nat.zero_le _, Nat.zero_le _⟩ rfl hdg (fun r τ H1 locs1 hp hw1 => by obtain ⟨rfl, rfl⟩ := hp; exact kk H1 locs1 hw1)
def rm_X5_unknown : Room := { frames := 4, cells := 0, slots := 0, locals := 88 }
set_option maxHeartbeats 4000000 in
set_option maxRecDepth 100000 in
theorem c_X5_unknown {l : Launch} {D : va_G} {cI cZ : ClassId} {ad : Nat → Nat} {σ : St} {sh tt : Int} (hD : ∀ τ, va_D (AD ad 45) (wsX cI ad τ)) (hB : Bd σ) (hsh : 0 ≤ sh ∧ sh ≤ 5) (htt : 0 ≤ tt ∧ tt ≤ 5) : JMi l yX5_unknown cX5_unknown 6 (some .int) rm_X5_unknown D [(cI, .int), (cZ, .boolean)] (AD ad 45) (wsX cI ad) [.ref (ad 8), .int (I sh), .int (I tt), .ref (ad 1)] σ (fun r τ => r = (sumI (fun c => if 0 < σ 2 c ∧ ¬ (¬ σ 16 (sh * 120 + c) = -4 ∧ ¬ σ 16 (tt * 120 + c) = -4) then 1 else 0) (σ 18 0 * σ 18 1)) ∧ τ = σ) := by
  refine JMi.of RX5 (by decide +kernel) rfl (Nat.le_of_ble_eq_true rfl) hD ?_
  intro p e s m args below meth c Q J fin H ls hw hl
  generalize ([] : List Loc) = locs at hw ⊢
  have hl : lv_has ls 6 [(0, .ref (ad 8)), (1, .int (I sh)), (2, .int (I tt)), (3, .ref (ad 1))] := hl
  have hd : Dim _ := hB.dim
  have hd1 := hd.1; have hd2 := hd.2.1; have hd3 := hd.2.2.1; have hd4 := hd.2.2.2; have hm := hd.mul
  refine j_iconst J (0) dX5_unknown_0 ?_
  refine j_istore J (lv' := [(4, .int (I 0)), (0, .ref (ad 8)), (1, .int (I sh)), (2, .int (I tt)), (3, .ref (ad 1))]) hl dX5_unknown_1 (by decide) rfl (fun ls hl => ?_)
  refine j_iconst J (0) dX5_unknown_3 ?_
  refine j_istore J (lv' := [(5, .int (I 0)), (4, .int (I 0)), (0, .ref (ad 8)), (1, .int (I sh)), (2, .int (I tt)), (3, .ref (ad 1))]) hl dX5_unknown_4 (by decide) rfl (fun ls hl => ?_)
  have L6 : ∀ n : Nat, ∀ (g : Int) (i : Int), (0 ≤ i ∧ i ≤ σ 18 0 * σ 18 1) → (g = sumI (fun c => if 0 < σ 2 c ∧ ¬ (¬ σ 16 (sh * 120 + c) = -4 ∧ ¬ σ 16 (tt * 120 + c) = -4) then 1 else 0) i) → ((σ 18 0 * σ 18 1 - i).toNat) < n → ∀ (H : Heap) (locs : List Loc) (ls : Array Slot), jW D (AD ad 45) s.heap (wsX cI ad σ) H locs → lv_has ls 6 [(5, .int (I i)), (0, .ref (ad 8)), (1, .int (I sh)), (2, .int (I tt)), (3, .ref (ad 1)), (4, .int (I g))] → W p l e rm_X5_unknown s m args below meth c H locs 0 0 Q (F0 m 6 ls []) := by
    intro n
    induction n with
    | zero =>
      intro g i hi0 hs hm H locs ls hw hl
      exact absurd hm (Nat.not_lt_zero _)
    | succ n ih =>
      intro g i hi0 hs hm H locs ls hw hl
      have ih6 := ih
      refine j_iload J dX5_unknown_6 (lv_at hl 0 rfl) ?_
      refine j_aload_n J dX5_unknown_8 rfl (lv_at hl 4 rfl) ?_
      refine k_X1_size  hD  J hw hl.1 lk_X5_45 ⟨Nat.le_of_ble_eq_true rfl, Nat.le_of_ble_eq_true rfl⟩ (Nat.le_of_ble_eq_true rfl) dX5_unknown_9 (fun H locs hw => ?_)
      refine j_icmp_ge J 47 (show rg i by unfold rg; omega) (show rg (σ 18 0 * σ 18 1) by unfold rg; omega) dX5_unknown_12 (by decide) (fun (h_1 : (σ 18 0 * σ 18 1) ≤ i) => ?_) (fun (h_1 : i < (σ 18 0 * σ 18 1)) => ?_)
      · refine j_iload J dX5_unknown_47 (lv_at hl 5 rfl) ?_
        exact fin _ _ _ _ _ _ dX5_unknown_49 rfl (⟨by rw [hs, show i = σ 18 0 * σ 18 1 by omega], rfl⟩) hw
      · refine j_aload_n J dX5_unknown_15 rfl (lv_at hl 4 rfl) ?_
        refine xg_1_1 J hw lk_X5_61 dX5_unknown_16 ?_
        refine j_iload J dX5_unknown_19 (lv_at hl 0 rfl) ?_
        refine k_X2_get (k := 2) (i := i) hD (by decide) (show 0 ≤ i ∧ i < ((120 : Nat) : Int) from by omega) J hw hl.1 lk_X5_30 ⟨Nat.le_of_ble_eq_true rfl, Nat.le_of_ble_eq_true rfl⟩ (Nat.le_of_ble_eq_true rfl) dX5_unknown_21 (fun H locs hw => ?_)
        have b0 := hB.design i
        refine j_if_le J 41 (show rg (σ 2 i) by unfold rg; omega) dX5_unknown_24 (by decide) (fun (h_2 : (σ 2 i) ≤ 0) => ?_) (fun (h_2 : 0 < (σ 2 i)) => ?_)
        · refine j_iinc J (lv' := [(5, .int (I (i + 1))), (0, .ref (ad 8)), (1, .int (I sh)), (2, .int (I tt)), (3, .ref (ad 1)), (4, .int (I g))]) (k := 0) hl dX5_unknown_41 rfl (by decide) rfl (fun ls hl => ?_)
          refine j_goto J 6 dX5_unknown_44 (by decide) ?_
          exact ih6 g (i + 1) (by omega) (by have hs9 := sumI_step (f := (fun c => if 0 < σ 2 c ∧ ¬ (¬ σ 16 (sh * 120 + c) = -4 ∧ ¬ σ 16 (tt * 120 + c) = -4) then 1 else 0)) hi0.1; (try dsimp only at hs9); (try split at hs9) <;> omega) (by omega) _ _ _ hw (lv_sub hl [0, 1, 2, 3, 4, 5] rfl)
        · refine j_aload_n J dX5_unknown_27 rfl (lv_at hl 1 rfl) ?_
          refine j_iload_n J dX5_unknown_28 rfl (lv_at hl 2 rfl) ?_
          refine j_iload_n J dX5_unknown_29 rfl (lv_at hl 3 rfl) ?_
          refine j_iload J dX5_unknown_30 (lv_at hl 0 rfl) ?_
          refine k_X5_bothKnow (sh := sh) (tt := tt) (cl := i) hD (by omega) (by omega) (by omega) (hB.sheet _) (hB.sheet _) J hw hl.1 lk_X5_58 ⟨Nat.le_of_ble_eq_true rfl, Nat.le_of_ble_eq_true rfl⟩ (Nat.le_of_ble_eq_true rfl) dX5_unknown_32 (fun H locs hw => ?_)
          refine j_ifneB J 41 dX5_unknown_35 (by decide) (fun (h_3 : ¬ σ 16 (sh * 120 + i) = -4 ∧ ¬ σ 16 (tt * 120 + i) = -4) => ?_) (fun (h_3 : ¬ (¬ σ 16 (sh * 120 + i) = -4 ∧ ¬ σ 16 (tt * 120 + i) = -4)) => ?_)
          · refine j_iinc J (lv' := [(5, .int (I (i + 1))), (0, .ref (ad 8)), (1, .int (I sh)), (2, .int (I tt)), (3, .ref (ad 1)), (4, .int (I g))]) (k := 0) hl dX5_unknown_41 rfl (by decide) rfl (fun ls hl => ?_)
            refine j_goto J 6 dX5_unknown_44 (by decide) ?_
            exact ih6 g (i + 1) (by omega) (by have hs9 := sumI_step (f := (fun c => if 0 < σ 2 c ∧ ¬ (¬ σ 16 (sh * 120 + c) = -4 ∧ ¬ σ 16 (tt * 120 + c) = -4) then 1 else 0)) hi0.1; (try dsimp only at hs9); (try split at hs9) <;> omega) (by omega) _ _ _ hw (lv_sub hl [0, 1, 2, 3, 4, 5] rfl)
          · refine j_iinc J (lv' := [(4, .int (I (g + 1))), (5, .int (I i)), (0, .ref (ad 8)), (1, .int (I sh)), (2, .int (I tt)), (3, .ref (ad 1))]) (k := 5) hl dX5_unknown_38 rfl (by decide) rfl (fun ls hl => ?_)
            refine j_iinc J (lv' := [(5, .int (I (i + 1))), (4, .int (I (g + 1))), (0, .ref (ad 8)), (1, .int (I sh)), (2, .int (I tt)), (3, .ref (ad 1))]) (k := 1) hl dX5_unknown_41 rfl (by decide) rfl (fun ls hl => ?_)
            refine j_goto J 6 dX5_unknown_44 (by decide) ?_
            exact ih6 (g + 1) (i + 1) (by omega) (by have hs9 := sumI_step (f := (fun c => if 0 < σ 2 c ∧ ¬ (¬ σ 16 (sh * 120 + c) = -4 ∧ ¬ σ 16 (tt * 120 + c) = -4) then 1 else 0)) hi0.1; (try dsimp only at hs9); (try split at hs9) <;> omega) (by omega) _ _ _ hw (lv_sub hl [0, 2, 3, 4, 5, 1] rfl)
  exact L6 _ 0 0 (by omega) (sumI_0.symm) (Nat.lt_succ_self _) _ _ _ hw (lv_sub hl [0, 2, 3, 4, 5, 1] rfl)
theorem k_X5_unknown {p : Program} {l : Launch} {e : Env} {R : Room} {s : State} {m : MethodId} {args : Array Value} {below : List Frame} {meth : Method} {c : Code} {H : Heap} {locs : List Loc} {Q : State → Prop} {cc : ByteArray} {pc : Nat} {ls : Array Slot} {rest : List Value} {nL : Nat} {own : String} {D : va_G} {σ : St} {cI cZ : ClassId} {ad : Nat → Nat} {index : Nat} {sh tt : Int} (hD : ∀ τ, va_D (AD ad 45) (wsX cI ad τ)) (hB : Bd σ) (hsh : 0 ≤ sh ∧ sh ≤ 5) (htt : 0 ≤ tt ∧ tt ≤ 5) (J : Jx p m c cc nL s args own D [(cI, .int), (cZ, .boolean)] (AD ad 45) (wsX cI ad)) (hw : jW D (AD ad 45) s.heap (wsX cI ad σ) H locs) (hsz : ls.size = nL) (hlk : Cond.methodLink own index yX5_unknown ∈ TBw) (hR : 5 ≤ R.frames ∧ 113 ≤ R.locals) (hroom : (rest.map fun v => v.category).sum ≤ 8) (hdg : decode cc pc = .ok (.invokevirtual index, 3)) (kk : ∀ (H1 : Heap) (locs1 : List Loc), jW D (AD ad 45) s.heap (wsX cI ad σ) H1 locs1 → W p l e R s m args below meth c H1 locs1 0 0 Q (F0 m (pc + 3) ls (.int (I (sumI (fun c => if 0 < σ 2 c ∧ ¬ (¬ σ 16 (sh * 120 + c) = -4 ∧ ¬ σ 16 (tt * 120 + c) = -4) then 1 else 0) (σ 18 0 * σ 18 1))) :: rest))) : W p l e R s m args below meth c H locs 0 0 Q (F0 m pc ls (.ref (ad 1) :: .int (I tt) :: .int (I sh) :: .ref (ad 8) :: rest)) := 
  j_callVi J hw (c_X5_unknown  hD hB hsh htt) hlk in_X5_unknown se_X5_unknown ini_X5 co_X5_unknown (n := 3) (by decide +kernel) ⟨rfl, rfl, hR.1, hR.2⟩ (j := 8) (ci := 5) rfl rfl rfl rfl hroom hsz ⟨Nat.zero_le _, Nat.zero_le _⟩ rfl hdg (fun r τ H1 locs1 hp hw1 => by obtain ⟨rfl, rfl⟩ := hp; exact kk H1 locs1 hw1)
end
section
/-! what is not scratch; loops of states; the digging's plan -/
def pub (k : Nat) (i : Int) : Prop := k ≠ 3 ∧ k ≠ 6 ∧ k ≠ 9 ∧ ¬ (k = 18 ∧ 10 ≤ i)
def Eqp (τ σ : St) : Prop := ∀ (k : Nat) (i : Int), pub k i → τ k i = σ k i
theorem Eqp.rf {σ : St} : Eqp σ σ := fun _ _ _ => rfl
theorem Eqp.tr {a b c : St} (h : Eqp a b) (h2 : Eqp b c) : Eqp a c := fun k i hp => (h k i hp).trans (h2 k i hp)
theorem Eqp.sym {a b : St} (h : Eqp a b) : Eqp b a := fun k i hp => (h k i hp).symm
theorem pub_k {k : Nat} {i : Int} (h3 : k ≠ 3) (h6 : k ≠ 6) (h9 : k ≠ 9) (h18 : k ≠ 18) : pub k i := ⟨h3, h6, h9, fun h => h18 h.1⟩
theorem pub_s {i : Int} (h : i < 10) : pub 18 i := ⟨by decide, by decide, by decide, by omega⟩
theorem Eqp.st {τ σ : St} {k : Nat} {i v : Int} (h : Eqp τ σ) (hk : ¬ pub k i) : Eqp (st τ k i v) σ := by
  intro k2 i2 hp
  show (if k2 = k ∧ i2 = i then v else τ k2 i2) = σ k2 i2
  rw [if_neg (by rintro ⟨rfl, rfl⟩; exact hk hp)]
  exact h k2 i2 hp
theorem npub9 {i : Int} : ¬ pub 9 i := fun h => h.2.2.1 rfl
theorem npub6 {i : Int} : ¬ pub 6 i := fun h => h.2.1 rfl
theorem npub3 {i : Int} : ¬ pub 3 i := fun h => h.1 rfl
theorem npubS {i : Int} (hi : 10 ≤ i) : ¬ pub 18 i := fun h => h.2.2.2 ⟨rfl, hi⟩
theorem Eqp.fl {τ σ : St} {k : Nat} {n v : Int} (h : Eqp τ σ) (hk : ∀ i, ¬ pub k i) : Eqp (fl τ k v n) σ := by
  intro k2 i2 hp
  show (if k2 = k ∧ 0 ≤ i2 ∧ i2 < n then v else τ k2 i2) = σ k2 i2
  rw [if_neg (by rintro ⟨rfl, _⟩; exact hk _ hp)]
  exact h k2 i2 hp
theorem Dim.eqp {τ σ : St} (h : Eqp τ σ) (hd : Dim σ) : Dim τ := by
  unfold Dim at hd ⊢
  rw [h 18 0 (pub_s (by decide)), h 18 1 (pub_s (by decide))]
  exact hd
theorem Bd.eqp {τ σ : St} (h : Eqp τ σ) (hB : Bd σ) : Bd τ := by
  have e : ∀ k i, k ≠ 3 → k ≠ 6 → k ≠ 9 → k ≠ 18 → τ k i = σ k i := fun k i h3 h6 h9 h18 => h k i (pub_k h3 h6 h9 h18)
  have e0 : ∀ i, τ 0 i = σ 0 i := fun i => e 0 i (by decide) (by decide) (by decide) (by decide)
  have e1 : ∀ i, τ 1 i = σ 1 i := fun i => e 1 i (by decide) (by decide) (by decide) (by decide)
  have e2 : ∀ i, τ 2 i = σ 2 i := fun i => e 2 i (by decide) (by decide) (by decide) (by decide)
  have e4 : ∀ i, τ 4 i = σ 4 i := fun i => e 4 i (by decide) (by decide) (by decide) (by decide)
  have e5 : ∀ i, τ 5 i = σ 5 i := fun i => e 5 i (by decide) (by decide) (by decide) (by decide)
  have e7 : ∀ i, τ 7 i = σ 7 i := fun i => e 7 i (by decide) (by decide) (by decide) (by decide)
  have e8 : ∀ i, τ 8 i = σ 8 i := fun i => e 8 i (by decide) (by decide) (by decide) (by decide)
  have e10 : ∀ i, τ 10 i = σ 10 i := fun i => e 10 i (by decide) (by decide) (by decide) (by decide)
  have e11 : ∀ i, τ 11 i = σ 11 i := fun i => e 11 i (by decide) (by decide) (by decide) (by decide)
  have e12 : ∀ i, τ 12 i = σ 12 i := fun i => e 12 i (by decide) (by decide) (by decide) (by decide)
  have e13 : ∀ i, τ 13 i = σ 13 i := fun i => e 13 i (by decide) (by decide) (by decide) (by decide)
  have e14 : ∀ i, τ 14 i = σ 14 i := fun i => e 14 i (by decide) (by decide) (by decide) (by decide)
  have e16 : ∀ i, τ 16 i = σ 16 i := fun i => e 16 i (by decide) (by decide) (by decide) (by decide)
  have e17 : ∀ i, τ 17 i = σ 17 i := fun i => e 17 i (by decide) (by decide) (by decide) (by decide)
  have s0 : τ 18 0 = σ 18 0 := h 18 0 (pub_s (by decide))
  have s1 : τ 18 1 = σ 18 1 := h 18 1 (pub_s (by decide))
  have s6 : τ 18 6 = σ 18 6 := h 18 6 (pub_s (by decide))
  have s7 : τ 18 7 = σ 18 7 := h 18 7 (pub_s (by decide))
  have s8 : τ 18 8 = σ 18 8 := h 18 8 (pub_s (by decide))
  unfold Bd Dim at hB ⊢
  simp only [e0, e1, e2, e4, e5, e7, e8, e10, e11, e12, e13, e14, e16, e17, s0, s1, s6, s7, s8]
  exact hB
def itN (f : Int → St → St) (σ : St) : Nat → St
  | 0 => σ
  | n + 1 => f n (itN f σ n)
def itI (f : Int → St → St) (σ : St) (n : Int) : St := itN f σ n.toNat
theorem itI_0 {f : Int → St → St} {σ : St} : itI f σ 0 = σ := rfl
theorem itI_step {f : Int → St → St} {σ : St} {n : Int} (h : 0 ≤ n) : itI f σ (n + 1) = f n (itI f σ n) := by
  obtain ⟨k, rfl⟩ := Int.eq_ofNat_of_zero_le h
  rfl
theorem itI_ind {f : Int → St → St} {σ : St} (P : Int → St → Prop) {n : Int} (hn : 0 ≤ n) (h0 : P 0 σ) (hs : ∀ i τ, 0 ≤ i → i < n → P i τ → P (i + 1) (f i τ)) : P n (itI f σ n) := by
  obtain ⟨k, rfl⟩ := Int.eq_ofNat_of_zero_le hn
  have key : ∀ j : Nat, j ≤ k → P j (itN f σ j) := by
    intro j
    induction j with
    | zero => intro _; exact h0
    | succ j ih => intro hj; exact hs j _ (by omega) (by omega) (ih (by omega))
  exact key k (Nat.le_refl k)
/-- room of a column's cell in the row of the plan -/
def rmS (τ : St) (ov x : Int) : Int := if τ 2 (τ 18 10 * τ 18 0 + x) = 0 then 0 else max 0 (τ 2 (τ 18 10 * τ 18 0 + x) + ov - τ 1 (τ 18 10 * τ 18 0 + x))
def pcS (τ : St) (ov x : Int) : St := if τ 9 x < rmS τ ov x then st (st (st τ 9 x (τ 9 x + 1)) 18 11 (τ 18 11 + 1)) 18 12 (τ 18 10 * τ 18 0 + x) else τ
def rnF (a s w ov : Int) : Int → St → St := fun i τ => if τ 18 11 < w then pcS τ ov (a + i * s) else τ
def rn (σ : St) (a s w ov n : Int) : St := itI (rnF a s w ov) σ n
def absI (z : Int) : Int := if 0 ≤ z then z else -z
def rnS (σ : St) (a b w ov : Int) : St := rn σ a (if a ≤ b then 1 else -1) w ov (absI (b - a) + 1)
def rd (σ : St) (a b w ov n : Int) : St := itI (fun _ τ => rnS τ a b w ov) σ n
def p0S (σ : St) (row a : Int) : St := st (st (st (fl σ 9 0 12) 18 10 row) 18 11 0) 18 12 (row * σ 18 0 + a)
theorem rms_rng {τ : St} {ov x : Int} (hB : Bd τ) (ho : 0 ≤ ov ∧ ov ≤ 50) : 0 ≤ rmS τ ov x ∧ rmS τ ov x ≤ 350 := by
  unfold rmS
  have b1 := hB.depth (τ 18 10 * τ 18 0 + x); have b2 := hB.design (τ 18 10 * τ 18 0 + x)
  split <;> omega
/-- what a plan keeps -/
def PlI (σ τ : St) : Prop := Eqp τ σ ∧ τ 18 10 = σ 18 10 ∧ (∀ x, 0 ≤ x → x < 12 → 0 ≤ τ 9 x ∧ τ 9 x ≤ 350) ∧ σ 18 11 ≤ τ 18 11 ∧ τ 18 11 ≤ 200 ∧ (τ = σ ∨ σ 18 11 < τ 18 11)
theorem pcS_facts {σ τ : St} {ov x w : Int} (hB : Bd σ) (ho : 0 ≤ ov ∧ ov ≤ 50) (hw : w ≤ 200) (hl : τ 18 11 < w) (h : PlI σ τ) : PlI σ (pcS τ ov x) := by
  obtain ⟨h1, h2, h3, h4, h5, h6⟩ := h
  unfold pcS
  split
  · rename_i hc
    have hr := rms_rng (x := x) (hB.eqp h1) ho
    refine ⟨((h1.st npub9).st (npubS (by decide))).st (npubS (by decide)), h2, fun y hy0 hy => ?_, ?_, ?_, Or.inr ?_⟩
    · show 0 ≤ (if 9 = 9 ∧ y = x then τ 9 x + 1 else τ 9 y) ∧ (if 9 = 9 ∧ y = x then τ 9 x + 1 else τ 9 y) ≤ 350
      by_cases e : y = x
      · subst e
        have := h3 y hy0 hy
        rw [if_pos ⟨rfl, rfl⟩]
        omega
      · rw [if_neg (fun q => e q.2)]
        exact h3 y hy0 hy
    · show σ 18 11 ≤ τ 18 11 + 1
      omega
    · show τ 18 11 + 1 ≤ 200
      omega
    · show σ 18 11 < τ 18 11 + 1
      omega
  · exact ⟨h1, h2, h3, h4, h5, h6⟩
theorem rn_facts {σ : St} {a s w ov n : Int} (hB : Bd σ) (ho : 0 ≤ ov ∧ ov ≤ 50) (hw : w ≤ 200) (hn : 0 ≤ n) (hp : ∀ x, 0 ≤ x → x < 12 → 0 ≤ σ 9 x ∧ σ 9 x ≤ 350) (hl : σ 18 11 ≤ 200) : PlI σ (rn σ a s w ov n) := by
  refine itI_ind (fun _ τ => PlI σ τ) hn ⟨Eqp.rf, rfl, hp, by omega, hl, Or.inl rfl⟩ (fun i τ _ _ h => ?_)
  show PlI σ (if τ 18 11 < w then pcS τ ov (a + i * s) else τ)
  split
  · exact pcS_facts hB ho hw (by assumption) h
  · exact h
theorem rn_step {σ : St} {a s w ov n : Int} (h : 0 ≤ n) (hl : rn σ a s w ov n 18 11 < w) : pcS (rn σ a s w ov n) ov (a + n * s) = rn σ a s w ov (n + 1) := by
  show _ = itI (rnF a s w ov) σ (n + 1)
  rw [itI_step h]
  exact (if_pos hl).symm
theorem rn_stop {σ : St} {a s w ov n k : Int} (h : 0 ≤ n) (hk : n ≤ k) (hl : w ≤ rn σ a s w ov n 18 11) : rn σ a s w ov n = rn σ a s w ov k := by
  obtain ⟨j, rfl⟩ : ∃ j : Nat, k = n + j := ⟨(k - n).toNat, by omega⟩
  have key : ∀ j : Nat, rn σ a s w ov n = rn σ a s w ov (n + j) := by
    intro j
    induction j with
    | zero => exact congrArg (rn σ a s w ov) (by omega)
    | succ j ih =>
      rw [show n + ((j + 1 : Nat) : Int) = n + j + 1 by omega]
      show _ = itI (rnF a s w ov) σ (n + j + 1)
      rw [itI_step (by omega)]
      show _ = rnF a s w ov (n + j) (rn σ a s w ov (n + j))
      rw [← ih]
      exact (if_neg (by omega)).symm
  exact key j
theorem absI_rng {z : Int} (h : -11 ≤ z ∧ z ≤ 11) : 0 ≤ absI z ∧ absI z ≤ 11 := by unfold absI; split <;> omega
theorem rnS_facts {σ : St} {a b w ov : Int} (hB : Bd σ) (ho : 0 ≤ ov ∧ ov ≤ 50) (hw : w ≤ 200) (hab : -11 ≤ b - a ∧ b - a ≤ 11) (hp : ∀ x, 0 ≤ x → x < 12 → 0 ≤ σ 9 x ∧ σ 9 x ≤ 350) (hl : σ 18 11 ≤ 200) : PlI σ (rnS σ a b w ov) := rn_facts hB ho hw (by have := absI_rng hab; omega) hp hl
def RdI (σ τ : St) : Prop := Eqp τ σ ∧ τ 18 10 = σ 18 10 ∧ (∀ x, 0 ≤ x → x < 12 → 0 ≤ τ 9 x ∧ τ 9 x ≤ 350) ∧ σ 18 11 ≤ τ 18 11 ∧ τ 18 11 ≤ 200
theorem rd_facts {σ : St} {a b w ov n : Int} (hB : Bd σ) (ho : 0 ≤ ov ∧ ov ≤ 50) (hw : w ≤ 200) (hab : -11 ≤ b - a ∧ b - a ≤ 11) (hn : 0 ≤ n) (hp : ∀ x, 0 ≤ x → x < 12 → 0 ≤ σ 9 x ∧ σ 9 x ≤ 350) (hl : σ 18 11 ≤ 200) : RdI σ (rd σ a b w ov n) := by
  refine itI_ind (fun _ τ => RdI σ τ) hn ⟨Eqp.rf, rfl, hp, by omega, hl⟩ (fun i τ _ _ h => ?_)
  obtain ⟨h1, h2, h3, h4, h5⟩ := h
  obtain ⟨g1, g2, g3, g4, g5, -⟩ := rnS_facts (a := a) (b := b) (hB.eqp h1) ho hw hab h3 h5
  exact ⟨g1.tr h1, g2.trans h2, g3, by omega, g5⟩
theorem rd_stop {σ : St} {a b w ov n k : Int} (h : 0 ≤ n) (hk : n ≤ k) (hs : rnS (rd σ a b w ov n) a b w ov = rd σ a b w ov n) : rd σ a b w ov n = rd σ a b w ov k := by
  obtain ⟨j, rfl⟩ : ∃ j : Nat, k = n + j := ⟨(k - n).toNat, by omega⟩
  have key : ∀ j : Nat, rd σ a b w ov n = rd σ a b w ov (n + j) := by
    intro j
    induction j with
    | zero => exact congrArg (rd σ a b w ov) (by omega)
    | succ j ih =>
      rw [show n + ((j + 1 : Nat) : Int) = n + j + 1 by omega]
      show _ = itI (fun _ τ => rnS τ a b w ov) σ (n + j + 1)
      rw [itI_step (by omega)]
      show _ = rnS (rd σ a b w ov (n + j)) a b w ov
      rw [← ih, hs]
  exact key j
theorem rd_step {σ : St} {a b w ov n : Int} (h : 0 ≤ n) : rnS (rd σ a b w ov n) a b w ov = rd σ a b w ov (n + 1) := (itI_step (f := fun _ τ => rnS τ a b w ov) h).symm
def dpS (σ : St) (n : Int) : St := fun k i => if k = 1 ∧ σ 18 10 * σ 18 0 ≤ i ∧ i < σ 18 10 * σ 18 0 + n then σ 1 i + σ 9 (i - σ 18 10 * σ 18 0) else σ k i
theorem dpS_0 {σ : St} : dpS σ 0 = σ := by
  funext k i
  unfold dpS
  rw [if_neg (by omega)]
theorem dpS_step {σ : St} {n : Int} (h : 0 ≤ n) : st (dpS σ n) 1 (σ 18 10 * σ 18 0 + n) (dpS σ n 1 (σ 18 10 * σ 18 0 + n) + σ 9 n) = dpS σ (n + 1) := by
  funext k i
  unfold st
  by_cases h1 : k = 1 ∧ i = σ 18 10 * σ 18 0 + n
  · rw [if_pos h1]; unfold dpS; rw [if_neg (by omega), if_pos (by omega), h1.2, show σ 18 10 * σ 18 0 + n - σ 18 10 * σ 18 0 = n by omega]
  · rw [if_neg h1]; unfold dpS
    by_cases h3 : k = 1 ∧ σ 18 10 * σ 18 0 ≤ i ∧ i < σ 18 10 * σ 18 0 + n
    · rw [if_pos h3, if_pos (by omega)]
    · rw [if_neg h3, if_neg (by omega)]
theorem absI_or (z : Int) : (0 ≤ z ∧ absI z = z) ∨ (z < 0 ∧ absI z = -z) := by
  unfold absI
  split <;> omega
theorem p0_eqp {σ : St} {row a : Int} : Eqp (p0S σ row a) σ := (((Eqp.rf.fl (fun _ => npub9)).st (npubS (by decide))).st (npubS (by decide))).st (npubS (by decide))
theorem p0_hp {σ : St} {row a : Int} : ∀ x, 0 ≤ x → x < 12 → 0 ≤ p0S σ row a 9 x ∧ p0S σ row a 9 x ≤ 350 := by
  intro x h0 h
  show 0 ≤ (if 9 = 9 ∧ 0 ≤ x ∧ x < 12 then (0 : Int) else σ 9 x) ∧ (if 9 = 9 ∧ 0 ≤ x ∧ x < 12 then (0 : Int) else σ 9 x) ≤ 350
  rw [if_pos ⟨rfl, h0, h⟩]
  omega
def rm_X3_planCell : Room := { frames := 2, cells := 0, slots := 0, locals := 45 }
set_option maxHeartbeats 4000000 in
set_option maxRecDepth 100000 in
theorem c_X3_planCell {l : Launch} {D : va_G} {cI cZ : ClassId} {ad : Nat → Nat} {σ : St} {x ov : Int} (hD : ∀ τ, va_D (AD ad 45) (wsX cI ad τ)) (hB : Bd σ) (hr : 0 ≤ σ 18 10 ∧ σ 18 10 < σ 18 1) (ho : 0 ≤ ov ∧ ov ≤ 50) (hx : 0 ≤ x ∧ x < σ 18 0) (hp : 0 ≤ σ 9 x ∧ σ 9 x ≤ 350) : JMv l yX3_planCell cX3_planCell 5 rm_X3_planCell D [(cI, .int), (cZ, .boolean)] (AD ad 45) (wsX cI ad) [.ref (ad 5), .ref (ad 1), .int (I x), .int (I ov)] σ (fun τ => τ = pcS σ ov x) := by
  refine JMv.of RX3 (by decide +kernel) rfl (Nat.le_of_ble_eq_true rfl) hD ?_
  intro p e s m args below meth c Q J fin H ls hw hl
  generalize ([] : List Loc) = locs at hw ⊢
  have hl : lv_has ls 5 [(0, .ref (ad 5)), (1, .ref (ad 1)), (2, .int (I x)), (3, .int (I ov))] := hl
  have hd : Dim _ := hB.dim
  have hd1 := hd.1; have hd2 := hd.2.1; have hd3 := hd.2.2.1; have hd4 := hd.2.2.2; have hm := hd.mul
  have hci := cell_in hr.1 hr.2 hx.1 hx.2
  have hrm := rms_rng (x := x) hB ho
  refine j_aload_n J dX3_planCell_0 rfl (lv_at hl 1 rfl) ?_
  refine j_aload_n J dX3_planCell_1 rfl (lv_at hl 0 rfl) ?_
  refine xg_3_1 J hw lk_X3_23 dX3_planCell_2 ?_
  refine j_iload_n J dX3_planCell_5 rfl (lv_at hl 2 rfl) ?_
  refine k_X1_number (row := σ 18 10) (col := x) hD  J hw hl.1 lk_X3_30 ⟨Nat.le_of_ble_eq_true rfl, Nat.le_of_ble_eq_true rfl⟩ (Nat.le_of_ble_eq_true rfl) dX3_planCell_6 (fun H locs hw => ?_)
  refine j_istore J (lv' := [(4, .int (I ((σ 18 10) * σ 18 0 + x))), (0, .ref (ad 5)), (1, .ref (ad 1)), (2, .int (I x)), (3, .int (I ov))]) hl dX3_planCell_9 (by decide) rfl (fun ls hl => ?_)
  refine j_aload_n J dX3_planCell_11 rfl (lv_at hl 1 rfl) ?_
  refine xg_3_0 J hw lk_X3_14 dX3_planCell_12 ?_
  refine j_iload_n J dX3_planCell_15 rfl (lv_at hl 3 rfl) ?_
  refine k_X2_get (k := 9) (i := x) hD (by decide) (show 0 ≤ x ∧ x < ((12 : Nat) : Int) from by omega) J hw hl.1 lk_X3_53 ⟨Nat.le_of_ble_eq_true rfl, Nat.le_of_ble_eq_true rfl⟩ (Nat.le_of_ble_eq_true rfl) dX3_planCell_16 (fun H locs hw => ?_)
  refine j_aload_n J dX3_planCell_19 rfl (lv_at hl 2 rfl) ?_
  refine j_iload J dX3_planCell_20 (lv_at hl 0 rfl) ?_
  refine j_iload_n J dX3_planCell_22 rfl (lv_at hl 4 rfl) ?_
  refine k_X1_room (cell := (σ 18 10) * σ 18 0 + x) (over := ov) hD (hB) (by omega) (by omega) J hw hl.1 lk_X3_56 ⟨Nat.le_of_ble_eq_true rfl, Nat.le_of_ble_eq_true rfl⟩ (Nat.le_of_ble_eq_true rfl) dX3_planCell_23 (fun H locs hw => ?_)
  refine j_icmp_lt J 30 (show rg (σ 9 x) by unfold rg; omega) (show rg (rmS σ ov x) by unfold rg; omega) dX3_planCell_26 (by decide) (fun (h_1 : (σ 9 x) < (rmS σ ov x)) => ?_) (fun (h_1 : (rmS σ ov x) ≤ (σ 9 x)) => ?_)
  · refine j_aload_n J dX3_planCell_30 rfl (lv_at hl 1 rfl) ?_
    refine xg_3_0 J hw lk_X3_14 dX3_planCell_31 ?_
    refine j_iload_n J dX3_planCell_34 rfl (lv_at hl 3 rfl) ?_
    refine j_iconst J (1) dX3_planCell_35 ?_
    refine k_X2_add (k := 9) (i := x) (v := 1) hD (by decide) (show 0 ≤ x ∧ x < ((12 : Nat) : Int) from by omega) J hw hl.1 lk_X3_59 ⟨Nat.le_of_ble_eq_true rfl, Nat.le_of_ble_eq_true rfl⟩ (Nat.le_of_ble_eq_true rfl) dX3_planCell_36 (fun H locs hw => ?_)
    refine j_aload_n J dX3_planCell_39 rfl (lv_at hl 1 rfl) ?_
    refine j_dup J dX3_planCell_40 rfl ?_
    refine xg_3_2 J hw lk_X3_27 dX3_planCell_41 ?_
    refine j_iconst J (1) dX3_planCell_44 ?_
    refine j_iadd J dX3_planCell_45 ?_
    refine xs_3_2 J hw lk_X3_27 dX3_planCell_46 (fun H locs hw => ?_)
    refine j_aload_n J dX3_planCell_49 rfl (lv_at hl 1 rfl) ?_
    refine j_iload J dX3_planCell_50 (lv_at hl 0 rfl) ?_
    refine xs_3_3 J hw lk_X3_36 dX3_planCell_52 (fun H locs hw => ?_)
    exact fin _ _ _ _ _ dX3_planCell_55 ((if_pos (by assumption)).symm) hw
  · exact fin _ _ _ _ _ dX3_planCell_29 ((if_neg (by omega)).symm) hw
theorem k_X3_planCell {p : Program} {l : Launch} {e : Env} {R : Room} {s : State} {m : MethodId} {args : Array Value} {below : List Frame} {meth : Method} {c : Code} {H : Heap} {locs : List Loc} {Q : State → Prop} {cc : ByteArray} {pc : Nat} {ls : Array Slot} {rest : List Value} {nL : Nat} {own : String} {D : va_G} {σ : St} {cI cZ : ClassId} {ad : Nat → Nat} {index : Nat} {x ov : Int} (hD : ∀ τ, va_D (AD ad 45) (wsX cI ad τ)) (hB : Bd σ) (hr : 0 ≤ σ 18 10 ∧ σ 18 10 < σ 18 1) (ho : 0 ≤ ov ∧ ov ≤ 50) (hx : 0 ≤ x ∧ x < σ 18 0) (hp : 0 ≤ σ 9 x ∧ σ 9 x ≤ 350) (J : Jx p m c cc nL s args own D [(cI, .int), (cZ, .boolean)] (AD ad 45) (wsX cI ad)) (hw : jW D (AD ad 45) s.heap (wsX cI ad σ) H locs) (hsz : ls.size = nL) (hlk : Cond.methodLink own index yX3_planCell ∈ TBw) (hR : 3 ≤ R.frames ∧ 69 ≤ R.locals) (hroom : (rest.map fun v => v.category).sum ≤ 8) (hdg : decode cc pc = .ok (.invokevirtual index, 3)) (kk : ∀ (H1 : Heap) (locs1 : List Loc), jW D (AD ad 45) s.heap (wsX cI ad (pcS σ ov x)) H1 locs1 → W p l e R s m args below meth c H1 locs1 0 0 Q (F0 m (pc + 3) ls rest)) : W p l e R s m args below meth c H locs 0 0 Q (F0 m pc ls (.int (I ov) :: .int (I x) :: .ref (ad 1) :: .ref (ad 5) :: rest)) := 
  j_callVv J hw (c_X3_planCell  hD hB hr ho hx hp) hlk in_X3_planCell se_X3_planCell ini_X3 co_X3_planCell (n := 3) (by decide +kernel) ⟨rfl, rfl, hR.1, hR.2⟩ (j := 5) (ci := 3) rfl rfl rfl rfl hroom hsz ⟨Nat.zero_le _, Nat.zero_le _⟩ rfl hdg (fun τ H1 locs1 hp hw1 => by subst hp; exact kk H1 locs1 hw1)
def rm_X3_planRun : Room := { frames := 3, cells := 0, slots := 0, locals := 69 }
set_option maxHeartbeats 4000000 in
set_option maxRecDepth 100000 in
theorem c_X3_planRun {l : Launch} {D : va_G} {cI cZ : ClassId} {ad : Nat → Nat} {σ : St} {a b w ov : Int} (hD : ∀ τ, va_D (AD ad 45) (wsX cI ad τ)) (hB : Bd σ) (hr : 0 ≤ σ 18 10 ∧ σ 18 10 < σ 18 1) (ho : 0 ≤ ov ∧ ov ≤ 50) (ha : 0 ≤ a ∧ a < σ 18 0) (hb : 0 ≤ b ∧ b < σ 18 0) (hw0 : 0 ≤ w ∧ w ≤ 200) (hp : ∀ x, 0 ≤ x → x < 12 → 0 ≤ σ 9 x ∧ σ 9 x ≤ 350) (hl0 : 0 ≤ σ 18 11 ∧ σ 18 11 ≤ 200) : JMi l yX3_planRun cX3_planRun 10 (some .boolean) rm_X3_planRun D [(cI, .int), (cZ, .boolean)] (AD ad 45) (wsX cI ad) [.ref (ad 5), .ref (ad 1), .int (I a), .int (I b), .int (I w), .int (I ov)] σ (fun r τ => r = (if σ 18 11 < rnS σ a b w ov 18 11 then 1 else 0) ∧ τ = rnS σ a b w ov) := by
  refine JMi.of RX3 (by decide +kernel) rfl (Nat.le_of_ble_eq_true rfl) hD ?_
  intro p e s m args below meth c Q J fin H ls hw hl
  generalize ([] : List Loc) = locs at hw ⊢
  have hl : lv_has ls 10 [(0, .ref (ad 5)), (1, .ref (ad 1)), (2, .int (I a)), (3, .int (I b)), (4, .int (I w)), (5, .int (I ov))] := hl
  have hd : Dim _ := hB.dim
  have hd1 := hd.1; have hd2 := hd.2.1; have hd3 := hd.2.2.1; have hd4 := hd.2.2.2; have hm := hd.mul
  have hab := absI_rng (z := b - a) (by omega)
  have hab2 := absI_or (b - a)
  refine j_aload_n J dX3_planRun_0 rfl (lv_at hl 0 rfl) ?_
  refine xg_3_2 J hw lk_X3_27 dX3_planRun_1 ?_
  refine j_istore J (lv' := [(6, .int (I (σ 18 11))), (0, .ref (ad 5)), (1, .ref (ad 1)), (2, .int (I a)), (3, .int (I b)), (4, .int (I w)), (5, .int (I ov))]) hl dX3_planRun_4 (by decide) rfl (fun ls hl => ?_)
  refine j_iload_n J dX3_planRun_6 rfl (lv_at hl 3 rfl) ?_
  refine j_iload_n J dX3_planRun_7 rfl (lv_at hl 4 rfl) ?_
  refine j_icmp_gt J 15 (show rg a by unfold rg; omega) (show rg b by unfold rg; omega) dX3_planRun_8 (by decide) (fun (h_1 : b < a) => ?_) (fun (h_1 : a ≤ b) => ?_)
  · refine j_iconst J (-1) dX3_planRun_15 ?_
    refine j_istore J (lv' := [(7, .int (I (-1))), (6, .int (I (σ 18 11))), (0, .ref (ad 5)), (1, .ref (ad 1)), (2, .int (I a)), (3, .int (I b)), (4, .int (I w)), (5, .int (I ov))]) hl dX3_planRun_16 (by decide) rfl (fun ls hl => ?_)
    refine j_iload_n J dX3_planRun_18 rfl (lv_at hl 5 rfl) ?_
    refine j_iload_n J dX3_planRun_19 rfl (lv_at hl 4 rfl) ?_
    refine j_isub J dX3_planRun_20 ?_
    refine j_abs J (show rg (b - a) by unfold rg; omega) hl.1 lk_X3_43 ⟨Nat.le_of_ble_eq_true rfl, Nat.le_of_ble_eq_true rfl, Nat.zero_le _, Nat.zero_le _⟩ dX3_planRun_21 ?_
    refine j_iconst J (1) dX3_planRun_24 ?_
    refine j_iadd J dX3_planRun_25 ?_
    refine j_istore J (lv' := [(8, .int (I ((absI (b - a)) + 1))), (7, .int (I (-1))), (6, .int (I (σ 18 11))), (0, .ref (ad 5)), (1, .ref (ad 1)), (2, .int (I a)), (3, .int (I b)), (4, .int (I w)), (5, .int (I ov))]) hl dX3_planRun_26 (by decide) rfl (fun ls hl => ?_)
    refine j_iconst J (0) dX3_planRun_28 ?_
    refine j_istore J (lv' := [(9, .int (I 0)), (8, .int (I ((absI (b - a)) + 1))), (7, .int (I (-1))), (6, .int (I (σ 18 11))), (0, .ref (ad 5)), (1, .ref (ad 1)), (2, .int (I a)), (3, .int (I b)), (4, .int (I w)), (5, .int (I ov))]) hl dX3_planRun_29 (by decide) rfl (fun ls hl => ?_)
    have L31 : ∀ n : Nat, ∀ (τ : St) (i : Int), (0 ≤ i ∧ i ≤ absI (b - a) + 1) → (τ = rn σ a (-1) w ov i) → ((absI (b - a) + 1 - i).toNat) < n → ∀ (H : Heap) (locs : List Loc) (ls : Array Slot), jW D (AD ad 45) s.heap (wsX cI ad τ) H locs → lv_has ls 10 [(9, .int (I i)), (0, .ref (ad 5)), (1, .ref (ad 1)), (2, .int (I a)), (3, .int (I b)), (4, .int (I w)), (5, .int (I ov)), (6, .int (I (σ 18 11))), (7, .int (I (-1))), (8, .int (I (absI (b - a) + 1)))] → W p l e rm_X3_planRun s m args below meth c H locs 0 0 Q (F0 m 31 ls []) := by
      intro n
      induction n with
      | zero =>
        intro τ i hi0 hτ hm H locs ls hw hl
        exact absurd hm (Nat.not_lt_zero _)
      | succ n ih =>
        intro τ i hi0 hτ hm H locs ls hw hl
        have ih31 := ih
        have hf := rn_facts (σ := σ) (a := a) (s := (-1)) (w := w) (ov := ov) (n := i) hB ho hw0.2 hi0.1 hp hl0.2
        rw [← hτ] at hf
        have hBt := hB.eqp hf.1
        have q0 : τ 18 0 = σ 18 0 := hf.1 18 0 (pub_s (by decide))
        have q1 : τ 18 1 = σ 18 1 := hf.1 18 1 (pub_s (by decide))
        have q2 := hf.2.1
        have q3 := hf.2.2.2.1
        have q4 := hf.2.2.2.2.1
        refine j_iload J dX3_planRun_31 (lv_at hl 0 rfl) ?_
        refine j_iload J dX3_planRun_33 (lv_at hl 9 rfl) ?_
        refine j_icmp_ge J 67 (show rg i by unfold rg; omega) (show rg (absI (b - a) + 1) by unfold rg; omega) dX3_planRun_35 (by decide) (fun (h_2 : (absI (b - a) + 1) ≤ i) => ?_) (fun (h_2 : i < (absI (b - a) + 1)) => ?_)
        · have hfin : τ = rnS σ a b w ov := by (unfold rnS; (first | rw [if_pos (show a ≤ b by omega)] | rw [if_neg (show ¬ a ≤ b by omega)]); (first | (rw [hτ]; exact rn_stop hi0.1 (by omega) (by rw [← hτ]; assumption)) | (rw [hτ, show i = absI (b - a) + 1 by omega])))
          refine j_aload_n J dX3_planRun_67 rfl (lv_at hl 1 rfl) ?_
          refine xg_3_2 J hw lk_X3_27 dX3_planRun_68 ?_
          refine j_iload J dX3_planRun_71 (lv_at hl 7 rfl) ?_
          refine j_icmp_le J 80 (show rg (τ 18 11) by unfold rg; omega) (show rg (σ 18 11) by unfold rg; omega) dX3_planRun_73 (by decide) (fun (h_3 : (τ 18 11) ≤ (σ 18 11)) => ?_) (fun (h_3 : (σ 18 11) < (τ 18 11)) => ?_)
          · refine j_iconst J (0) dX3_planRun_80 ?_
            exact fin _ _ _ _ _ _ dX3_planRun_81 rfl (⟨by first | exact (if_pos (by rw [← hfin]; assumption)).symm | exact (if_neg (by rw [← hfin]; omega)).symm, hfin⟩) hw
          · refine j_iconst J (1) dX3_planRun_76 ?_
            refine j_goto J 81 dX3_planRun_77 (by decide) ?_
            exact fin _ _ _ _ _ _ dX3_planRun_81 rfl (⟨by first | exact (if_pos (by rw [← hfin]; assumption)).symm | exact (if_neg (by rw [← hfin]; omega)).symm, hfin⟩) hw
        · refine j_aload_n J dX3_planRun_38 rfl (lv_at hl 1 rfl) ?_
          refine xg_3_2 J hw lk_X3_27 dX3_planRun_39 ?_
          refine j_iload J dX3_planRun_42 (lv_at hl 5 rfl) ?_
          refine j_icmp_ge J 67 (show rg (τ 18 11) by unfold rg; omega) (show rg w by unfold rg; omega) dX3_planRun_44 (by decide) (fun (h_4 : w ≤ (τ 18 11)) => ?_) (fun (h_4 : (τ 18 11) < w) => ?_)
          · have hfin : τ = rnS σ a b w ov := by (unfold rnS; (first | rw [if_pos (show a ≤ b by omega)] | rw [if_neg (show ¬ a ≤ b by omega)]); (first | (rw [hτ]; exact rn_stop hi0.1 (by omega) (by rw [← hτ]; assumption)) | (rw [hτ, show i = absI (b - a) + 1 by omega])))
            refine j_aload_n J dX3_planRun_67 rfl (lv_at hl 1 rfl) ?_
            refine xg_3_2 J hw lk_X3_27 dX3_planRun_68 ?_
            refine j_iload J dX3_planRun_71 (lv_at hl 7 rfl) ?_
            refine j_icmp_le J 80 (show rg (τ 18 11) by unfold rg; omega) (show rg (σ 18 11) by unfold rg; omega) dX3_planRun_73 (by decide) (fun (h_5 : (τ 18 11) ≤ (σ 18 11)) => ?_) (fun (h_5 : (σ 18 11) < (τ 18 11)) => ?_)
            · refine j_iconst J (0) dX3_planRun_80 ?_
              exact fin _ _ _ _ _ _ dX3_planRun_81 rfl (⟨by first | exact (if_pos (by rw [← hfin]; assumption)).symm | exact (if_neg (by rw [← hfin]; omega)).symm, hfin⟩) hw
            · refine j_iconst J (1) dX3_planRun_76 ?_
              refine j_goto J 81 dX3_planRun_77 (by decide) ?_
              exact fin _ _ _ _ _ _ dX3_planRun_81 rfl (⟨by first | exact (if_pos (by rw [← hfin]; assumption)).symm | exact (if_neg (by rw [← hfin]; omega)).symm, hfin⟩) hw
          · refine j_aload_n J dX3_planRun_47 rfl (lv_at hl 1 rfl) ?_
            refine j_aload_n J dX3_planRun_48 rfl (lv_at hl 2 rfl) ?_
            refine j_iload_n J dX3_planRun_49 rfl (lv_at hl 3 rfl) ?_
            refine j_iload J dX3_planRun_50 (lv_at hl 0 rfl) ?_
            refine j_iload J dX3_planRun_52 (lv_at hl 8 rfl) ?_
            refine j_imul J dX3_planRun_54 ?_
            refine j_iadd J dX3_planRun_55 ?_
            refine j_iload J dX3_planRun_56 (lv_at hl 6 rfl) ?_
            refine k_X3_planCell (x := a + (i * (-1))) (ov := ov) hD (hBt) (by omega) (ho) (by omega) (hf.2.2.1 _ (by omega) (by omega)) J hw hl.1 lk_X3_49 ⟨Nat.le_of_ble_eq_true rfl, Nat.le_of_ble_eq_true rfl⟩ (Nat.le_of_ble_eq_true rfl) dX3_planRun_58 (fun H locs hw => ?_)
            refine j_iinc J (lv' := [(9, .int (I (i + 1))), (0, .ref (ad 5)), (1, .ref (ad 1)), (2, .int (I a)), (3, .int (I b)), (4, .int (I w)), (5, .int (I ov)), (6, .int (I (σ 18 11))), (7, .int (I (-1))), (8, .int (I (absI (b - a) + 1)))]) (k := 0) hl dX3_planRun_61 rfl (by decide) rfl (fun ls hl => ?_)
            refine j_goto J 31 dX3_planRun_64 (by decide) ?_
            exact ih31 (pcS τ ov (a + (i * (-1)))) (i + 1) (by omega) (by rw [hτ]; exact rn_step hi0.1 (by rw [← hτ]; assumption)) (by omega) _ _ _ hw (lv_sub hl [0, 1, 2, 3, 4, 5, 6, 7, 8, 9] rfl)
    exact L31 _ σ 0 (by have := absI_rng (z := b - a) (by omega); omega) (itI_0.symm) (Nat.lt_succ_self _) _ _ _ hw (lv_sub hl [0, 4, 5, 6, 7, 8, 9, 3, 2, 1] rfl)
  · refine j_iconst J (1) dX3_planRun_11 ?_
    refine j_goto J 16 dX3_planRun_12 (by decide) ?_
    refine j_istore J (lv' := [(7, .int (I 1)), (6, .int (I (σ 18 11))), (0, .ref (ad 5)), (1, .ref (ad 1)), (2, .int (I a)), (3, .int (I b)), (4, .int (I w)), (5, .int (I ov))]) hl dX3_planRun_16 (by decide) rfl (fun ls hl => ?_)
    refine j_iload_n J dX3_planRun_18 rfl (lv_at hl 5 rfl) ?_
    refine j_iload_n J dX3_planRun_19 rfl (lv_at hl 4 rfl) ?_
    refine j_isub J dX3_planRun_20 ?_
    refine j_abs J (show rg (b - a) by unfold rg; omega) hl.1 lk_X3_43 ⟨Nat.le_of_ble_eq_true rfl, Nat.le_of_ble_eq_true rfl, Nat.zero_le _, Nat.zero_le _⟩ dX3_planRun_21 ?_
    refine j_iconst J (1) dX3_planRun_24 ?_
    refine j_iadd J dX3_planRun_25 ?_
    refine j_istore J (lv' := [(8, .int (I ((absI (b - a)) + 1))), (7, .int (I 1)), (6, .int (I (σ 18 11))), (0, .ref (ad 5)), (1, .ref (ad 1)), (2, .int (I a)), (3, .int (I b)), (4, .int (I w)), (5, .int (I ov))]) hl dX3_planRun_26 (by decide) rfl (fun ls hl => ?_)
    refine j_iconst J (0) dX3_planRun_28 ?_
    refine j_istore J (lv' := [(9, .int (I 0)), (8, .int (I ((absI (b - a)) + 1))), (7, .int (I 1)), (6, .int (I (σ 18 11))), (0, .ref (ad 5)), (1, .ref (ad 1)), (2, .int (I a)), (3, .int (I b)), (4, .int (I w)), (5, .int (I ov))]) hl dX3_planRun_29 (by decide) rfl (fun ls hl => ?_)
    have L31 : ∀ n : Nat, ∀ (τ : St) (i : Int), (0 ≤ i ∧ i ≤ absI (b - a) + 1) → (τ = rn σ a (1) w ov i) → ((absI (b - a) + 1 - i).toNat) < n → ∀ (H : Heap) (locs : List Loc) (ls : Array Slot), jW D (AD ad 45) s.heap (wsX cI ad τ) H locs → lv_has ls 10 [(9, .int (I i)), (0, .ref (ad 5)), (1, .ref (ad 1)), (2, .int (I a)), (3, .int (I b)), (4, .int (I w)), (5, .int (I ov)), (6, .int (I (σ 18 11))), (7, .int (I 1)), (8, .int (I (absI (b - a) + 1)))] → W p l e rm_X3_planRun s m args below meth c H locs 0 0 Q (F0 m 31 ls []) := by
      intro n
      induction n with
      | zero =>
        intro τ i hi0 hτ hm H locs ls hw hl
        exact absurd hm (Nat.not_lt_zero _)
      | succ n ih =>
        intro τ i hi0 hτ hm H locs ls hw hl
        have ih31 := ih
        have hf := rn_facts (σ := σ) (a := a) (s := 1) (w := w) (ov := ov) (n := i) hB ho hw0.2 hi0.1 hp hl0.2
        rw [← hτ] at hf
        have hBt := hB.eqp hf.1
        have q0 : τ 18 0 = σ 18 0 := hf.1 18 0 (pub_s (by decide))
        have q1 : τ 18 1 = σ 18 1 := hf.1 18 1 (pub_s (by decide))
        have q2 := hf.2.1
        have q3 := hf.2.2.2.1
        have q4 := hf.2.2.2.2.1
        refine j_iload J dX3_planRun_31 (lv_at hl 0 rfl) ?_
        refine j_iload J dX3_planRun_33 (lv_at hl 9 rfl) ?_
        refine j_icmp_ge J 67 (show rg i by unfold rg; omega) (show rg (absI (b - a) + 1) by unfold rg; omega) dX3_planRun_35 (by decide) (fun (h_6 : (absI (b - a) + 1) ≤ i) => ?_) (fun (h_6 : i < (absI (b - a) + 1)) => ?_)
        · have hfin : τ = rnS σ a b w ov := by (unfold rnS; (first | rw [if_pos (show a ≤ b by omega)] | rw [if_neg (show ¬ a ≤ b by omega)]); (first | (rw [hτ]; exact rn_stop hi0.1 (by omega) (by rw [← hτ]; assumption)) | (rw [hτ, show i = absI (b - a) + 1 by omega])))
          refine j_aload_n J dX3_planRun_67 rfl (lv_at hl 1 rfl) ?_
          refine xg_3_2 J hw lk_X3_27 dX3_planRun_68 ?_
          refine j_iload J dX3_planRun_71 (lv_at hl 7 rfl) ?_
          refine j_icmp_le J 80 (show rg (τ 18 11) by unfold rg; omega) (show rg (σ 18 11) by unfold rg; omega) dX3_planRun_73 (by decide) (fun (h_7 : (τ 18 11) ≤ (σ 18 11)) => ?_) (fun (h_7 : (σ 18 11) < (τ 18 11)) => ?_)
          · refine j_iconst J (0) dX3_planRun_80 ?_
            exact fin _ _ _ _ _ _ dX3_planRun_81 rfl (⟨by first | exact (if_pos (by rw [← hfin]; assumption)).symm | exact (if_neg (by rw [← hfin]; omega)).symm, hfin⟩) hw
          · refine j_iconst J (1) dX3_planRun_76 ?_
            refine j_goto J 81 dX3_planRun_77 (by decide) ?_
            exact fin _ _ _ _ _ _ dX3_planRun_81 rfl (⟨by first | exact (if_pos (by rw [← hfin]; assumption)).symm | exact (if_neg (by rw [← hfin]; omega)).symm, hfin⟩) hw
        · refine j_aload_n J dX3_planRun_38 rfl (lv_at hl 1 rfl) ?_
          refine xg_3_2 J hw lk_X3_27 dX3_planRun_39 ?_
          refine j_iload J dX3_planRun_42 (lv_at hl 5 rfl) ?_
          refine j_icmp_ge J 67 (show rg (τ 18 11) by unfold rg; omega) (show rg w by unfold rg; omega) dX3_planRun_44 (by decide) (fun (h_8 : w ≤ (τ 18 11)) => ?_) (fun (h_8 : (τ 18 11) < w) => ?_)
          · have hfin : τ = rnS σ a b w ov := by (unfold rnS; (first | rw [if_pos (show a ≤ b by omega)] | rw [if_neg (show ¬ a ≤ b by omega)]); (first | (rw [hτ]; exact rn_stop hi0.1 (by omega) (by rw [← hτ]; assumption)) | (rw [hτ, show i = absI (b - a) + 1 by omega])))
            refine j_aload_n J dX3_planRun_67 rfl (lv_at hl 1 rfl) ?_
            refine xg_3_2 J hw lk_X3_27 dX3_planRun_68 ?_
            refine j_iload J dX3_planRun_71 (lv_at hl 7 rfl) ?_
            refine j_icmp_le J 80 (show rg (τ 18 11) by unfold rg; omega) (show rg (σ 18 11) by unfold rg; omega) dX3_planRun_73 (by decide) (fun (h_9 : (τ 18 11) ≤ (σ 18 11)) => ?_) (fun (h_9 : (σ 18 11) < (τ 18 11)) => ?_)
            · refine j_iconst J (0) dX3_planRun_80 ?_
              exact fin _ _ _ _ _ _ dX3_planRun_81 rfl (⟨by first | exact (if_pos (by rw [← hfin]; assumption)).symm | exact (if_neg (by rw [← hfin]; omega)).symm, hfin⟩) hw
            · refine j_iconst J (1) dX3_planRun_76 ?_
              refine j_goto J 81 dX3_planRun_77 (by decide) ?_
              exact fin _ _ _ _ _ _ dX3_planRun_81 rfl (⟨by first | exact (if_pos (by rw [← hfin]; assumption)).symm | exact (if_neg (by rw [← hfin]; omega)).symm, hfin⟩) hw
          · refine j_aload_n J dX3_planRun_47 rfl (lv_at hl 1 rfl) ?_
            refine j_aload_n J dX3_planRun_48 rfl (lv_at hl 2 rfl) ?_
            refine j_iload_n J dX3_planRun_49 rfl (lv_at hl 3 rfl) ?_
            refine j_iload J dX3_planRun_50 (lv_at hl 0 rfl) ?_
            refine j_iload J dX3_planRun_52 (lv_at hl 8 rfl) ?_
            refine j_imul J dX3_planRun_54 ?_
            refine j_iadd J dX3_planRun_55 ?_
            refine j_iload J dX3_planRun_56 (lv_at hl 6 rfl) ?_
            refine k_X3_planCell (x := a + (i * 1)) (ov := ov) hD (hBt) (by omega) (ho) (by omega) (hf.2.2.1 _ (by omega) (by omega)) J hw hl.1 lk_X3_49 ⟨Nat.le_of_ble_eq_true rfl, Nat.le_of_ble_eq_true rfl⟩ (Nat.le_of_ble_eq_true rfl) dX3_planRun_58 (fun H locs hw => ?_)
            refine j_iinc J (lv' := [(9, .int (I (i + 1))), (0, .ref (ad 5)), (1, .ref (ad 1)), (2, .int (I a)), (3, .int (I b)), (4, .int (I w)), (5, .int (I ov)), (6, .int (I (σ 18 11))), (7, .int (I 1)), (8, .int (I (absI (b - a) + 1)))]) (k := 0) hl dX3_planRun_61 rfl (by decide) rfl (fun ls hl => ?_)
            refine j_goto J 31 dX3_planRun_64 (by decide) ?_
            exact ih31 (pcS τ ov (a + (i * 1))) (i + 1) (by omega) (by rw [hτ]; exact rn_step hi0.1 (by rw [← hτ]; assumption)) (by omega) _ _ _ hw (lv_sub hl [0, 1, 2, 3, 4, 5, 6, 7, 8, 9] rfl)
    exact L31 _ σ 0 (by have := absI_rng (z := b - a) (by omega); omega) (itI_0.symm) (Nat.lt_succ_self _) _ _ _ hw (lv_sub hl [0, 4, 5, 6, 7, 8, 9, 3, 2, 1] rfl)
theorem k_X3_planRun {p : Program} {l : Launch} {e : Env} {R : Room} {s : State} {m : MethodId} {args : Array Value} {below : List Frame} {meth : Method} {c : Code} {H : Heap} {locs : List Loc} {Q : State → Prop} {cc : ByteArray} {pc : Nat} {ls : Array Slot} {rest : List Value} {nL : Nat} {own : String} {D : va_G} {σ : St} {cI cZ : ClassId} {ad : Nat → Nat} {index : Nat} {a b w ov : Int} (hD : ∀ τ, va_D (AD ad 45) (wsX cI ad τ)) (hB : Bd σ) (hr : 0 ≤ σ 18 10 ∧ σ 18 10 < σ 18 1) (ho : 0 ≤ ov ∧ ov ≤ 50) (ha : 0 ≤ a ∧ a < σ 18 0) (hb : 0 ≤ b ∧ b < σ 18 0) (hw0 : 0 ≤ w ∧ w ≤ 200) (hp : ∀ x, 0 ≤ x → x < 12 → 0 ≤ σ 9 x ∧ σ 9 x ≤ 350) (hl0 : 0 ≤ σ 18 11 ∧ σ 18 11 ≤ 200) (J : Jx p m c cc nL s args own D [(cI, .int), (cZ, .boolean)] (AD ad 45) (wsX cI ad)) (hw : jW D (AD ad 45) s.heap (wsX cI ad σ) H locs) (hsz : ls.size = nL) (hlk : Cond.methodLink own index yX3_planRun ∈ TBw) (hR : 4 ≤ R.frames ∧ 98 ≤ R.locals) (hroom : (rest.map fun v => v.category).sum ≤ 8) (hdg : decode cc pc = .ok (.invokevirtual index, 3)) (kk : ∀ (H1 : Heap) (locs1 : List Loc), jW D (AD ad 45) s.heap (wsX cI ad (rnS σ a b w ov)) H1 locs1 → W p l e R s m args below meth c H1 locs1 0 0 Q (F0 m (pc + 3) ls (.int (I (if σ 18 11 < rnS σ a b w ov 18 11 then 1 else 0)) :: rest))) : W p l e R s m args below meth c H locs 0 0 Q (F0 m pc ls (.int (I ov) :: .int (I w) :: .int (I b) :: .int (I a) :: .ref (ad 1) :: .ref (ad 5) :: rest)) := 
  j_callVi J hw (c_X3_planRun  hD hB hr ho ha hb hw0 hp hl0) hlk in_X3_planRun se_X3_planRun ini_X3 co_X3_planRun (n := 5) (by decide +kernel) ⟨rfl, rfl, hR.1, hR.2⟩ (j := 5) (ci := 3) rfl rfl rfl rfl hroom hsz ⟨Nat.zero_le _, Nat.zero_le _⟩ rfl hdg (fun r τ H1 locs1 hp hw1 => by obtain ⟨rfl, rfl⟩ := hp; exact kk H1 locs1 hw1)
def rm_X3_plan : Room := { frames := 4, cells := 0, slots := 0, locals := 98 }
set_option maxHeartbeats 4000000 in
set_option maxRecDepth 100000 in
theorem c_X3_plan {l : Launch} {D : va_G} {cI cZ : ClassId} {ad : Nat → Nat} {σ : St} {row a b w ov : Int} (hD : ∀ τ, va_D (AD ad 45) (wsX cI ad τ)) (hB : Bd σ) (hr : 0 ≤ row ∧ row < σ 18 1) (ha : 0 ≤ a ∧ a < σ 18 0) (hb : 0 ≤ b ∧ b < σ 18 0) (hw0 : 0 ≤ w ∧ w ≤ 200) (ho : 0 ≤ ov ∧ ov ≤ 50) : JMv l yX3_plan cX3_plan 9 rm_X3_plan D [(cI, .int), (cZ, .boolean)] (AD ad 45) (wsX cI ad) [.ref (ad 5), .ref (ad 1), .int (I row), .int (I a), .int (I b), .int (I w), .int (I ov)] σ (fun τ => τ = rd (p0S σ row a) a b w ov 200) := by
  refine JMv.of RX3 (by decide +kernel) rfl (Nat.le_of_ble_eq_true rfl) hD ?_
  intro p e s m args below meth c Q J fin H ls hw hl
  generalize ([] : List Loc) = locs at hw ⊢
  have hl : lv_has ls 9 [(0, .ref (ad 5)), (1, .ref (ad 1)), (2, .int (I row)), (3, .int (I a)), (4, .int (I b)), (5, .int (I w)), (6, .int (I ov))] := hl
  have hd : Dim _ := hB.dim
  have hd1 := hd.1; have hd2 := hd.2.1; have hd3 := hd.2.2.1; have hd4 := hd.2.2.2; have hm := hd.mul
  refine j_aload_n J dX3_plan_0 rfl (lv_at hl 0 rfl) ?_
  refine xg_3_0 J hw lk_X3_14 dX3_plan_1 ?_
  refine j_iconst J (0) dX3_plan_4 ?_
  refine k_X2_fill (k := 9) (v := 0) hD (by decide) J hw hl.1 lk_X3_20 ⟨Nat.le_of_ble_eq_true rfl, Nat.le_of_ble_eq_true rfl⟩ (Nat.le_of_ble_eq_true rfl) dX3_plan_5 (fun H locs hw => ?_)
  refine j_aload_n J dX3_plan_8 rfl (lv_at hl 0 rfl) ?_
  refine j_iload_n J dX3_plan_9 rfl (lv_at hl 2 rfl) ?_
  refine xs_3_1 J hw lk_X3_23 dX3_plan_10 (fun H locs hw => ?_)
  refine j_aload_n J dX3_plan_13 rfl (lv_at hl 0 rfl) ?_
  refine j_iconst J (0) dX3_plan_14 ?_
  refine xs_3_2 J hw lk_X3_27 dX3_plan_15 (fun H locs hw => ?_)
  refine j_aload_n J dX3_plan_18 rfl (lv_at hl 0 rfl) ?_
  refine j_aload_n J dX3_plan_19 rfl (lv_at hl 1 rfl) ?_
  refine j_aload_n J dX3_plan_20 rfl (lv_at hl 0 rfl) ?_
  refine xg_3_1 J hw lk_X3_23 dX3_plan_21 ?_
  refine j_iload_n J dX3_plan_24 rfl (lv_at hl 3 rfl) ?_
  refine k_X1_number (row := row) (col := a) hD  J hw hl.1 lk_X3_30 ⟨Nat.le_of_ble_eq_true rfl, Nat.le_of_ble_eq_true rfl⟩ (Nat.le_of_ble_eq_true rfl) dX3_plan_25 (fun H locs hw => ?_)
  refine xs_3_3 J hw lk_X3_36 dX3_plan_28 (fun H locs hw => ?_)
  refine j_iconst J (1) dX3_plan_31 ?_
  refine j_istore J (lv' := [(7, .int (I 1)), (0, .ref (ad 5)), (1, .ref (ad 1)), (2, .int (I row)), (3, .int (I a)), (4, .int (I b)), (5, .int (I w)), (6, .int (I ov))]) hl dX3_plan_32 (by decide) rfl (fun ls hl => ?_)
  refine j_iconst J (0) dX3_plan_34 ?_
  refine j_istore J (lv' := [(8, .int (I 0)), (7, .int (I 1)), (0, .ref (ad 5)), (1, .ref (ad 1)), (2, .int (I row)), (3, .int (I a)), (4, .int (I b)), (5, .int (I w)), (6, .int (I ov))]) hl dX3_plan_35 (by decide) rfl (fun ls hl => ?_)
  have L37 : ∀ n : Nat, ∀ (τ : St) (dg : Int) (r : Int), (0 ≤ r ∧ r ≤ 200) → (dg = 0 ∨ dg = 1) → (τ = rd (p0S σ row a) a b w ov r) → (dg = 0 → rnS τ a b w ov = τ) → ((200 - r).toNat) < n → ∀ (H : Heap) (locs : List Loc) (ls : Array Slot), jW D (AD ad 45) s.heap (wsX cI ad τ) H locs → lv_has ls 9 [(8, .int (I r)), (0, .ref (ad 5)), (1, .ref (ad 1)), (2, .int (I row)), (3, .int (I a)), (4, .int (I b)), (5, .int (I w)), (6, .int (I ov)), (7, .int (I dg))] → W p l e rm_X3_plan s m args below meth c H locs 0 0 Q (F0 m 37 ls []) := by
    intro n
    induction n with
    | zero =>
      intro τ dg r hr0 hdg hτ hdz hm H locs ls hw hl
      exact absurd hm (Nat.not_lt_zero _)
    | succ n ih =>
      intro τ dg r hr0 hdg hτ hdz hm H locs ls hw hl
      have ih37 := ih
      have hf := rd_facts (σ := p0S σ row a) (a := a) (b := b) (w := w) (ov := ov) (n := r) (hB.eqp p0_eqp) ho hw0.2 (by omega) hr0.1 p0_hp (by show (0 : Int) ≤ 200; decide)
      rw [← hτ] at hf
      have hE := hf.1.tr p0_eqp
      have hBt := hB.eqp hE
      have q0 : τ 18 0 = σ 18 0 := hE 18 0 (pub_s (by decide))
      have q1 : τ 18 1 = σ 18 1 := hE 18 1 (pub_s (by decide))
      have q2 : τ 18 10 = row := hf.2.1
      have q3 : 0 ≤ τ 18 11 := hf.2.2.2.1
      have q4 := hf.2.2.2.2
      have hg := rnS_facts (a := a) (b := b) hBt ho hw0.2 (by omega) hf.2.2.1 q4
      refine j_iload J dX3_plan_37 (lv_at hl 0 rfl) ?_
      refine j_sipush J (200) dX3_plan_39 (by decide) ?_
      refine j_icmp_ge J 70 (show rg r by unfold rg; omega) (by unfold rg; omega) dX3_plan_42 (by decide) (fun (h_1 : 200 ≤ r) => ?_) (fun (h_1 : r < 200) => ?_)
      · exact fin _ _ _ _ _ dX3_plan_70 (by first | (rw [hτ, show r = 200 by omega]; done) | (rw [hτ]; exact rd_stop hr0.1 (by omega) (by rw [← hτ]; exact hdz (by assumption)))) hw
      · refine j_iload J dX3_plan_45 (lv_at hl 8 rfl) ?_
        refine j_if_eq J 70 (show rg dg by unfold rg; omega) dX3_plan_47 (by decide) (fun (h_2 : dg = 0) => ?_) (fun (h_2 : ¬ dg = 0) => ?_)
        · exact fin _ _ _ _ _ dX3_plan_70 (by first | (rw [hτ, show r = 200 by omega]; done) | (rw [hτ]; exact rd_stop hr0.1 (by omega) (by rw [← hτ]; exact hdz (by assumption)))) hw
        · refine j_aload_n J dX3_plan_50 rfl (lv_at hl 1 rfl) ?_
          refine j_aload_n J dX3_plan_51 rfl (lv_at hl 2 rfl) ?_
          refine j_iload_n J dX3_plan_52 rfl (lv_at hl 4 rfl) ?_
          refine j_iload J dX3_plan_53 (lv_at hl 5 rfl) ?_
          refine j_iload J dX3_plan_55 (lv_at hl 6 rfl) ?_
          refine j_iload J dX3_plan_57 (lv_at hl 7 rfl) ?_
          refine k_X3_planRun (a := a) (b := b) (w := w) (ov := ov) hD (hBt) (by omega) (ho) (by omega) (by omega) (by omega) (hf.2.2.1) (by omega) J hw hl.1 lk_X3_39 ⟨Nat.le_of_ble_eq_true rfl, Nat.le_of_ble_eq_true rfl⟩ (Nat.le_of_ble_eq_true rfl) dX3_plan_59 (fun H locs hw => ?_)
          refine j_istore J (lv' := [(7, .int (I (if τ 18 11 < rnS τ a b w ov 18 11 then 1 else 0))), (8, .int (I r)), (0, .ref (ad 5)), (1, .ref (ad 1)), (2, .int (I row)), (3, .int (I a)), (4, .int (I b)), (5, .int (I w)), (6, .int (I ov))]) hl dX3_plan_62 (by decide) rfl (fun ls hl => ?_)
          refine j_iinc J (lv' := [(8, .int (I (r + 1))), (7, .int (I (if τ 18 11 < rnS τ a b w ov 18 11 then 1 else 0))), (0, .ref (ad 5)), (1, .ref (ad 1)), (2, .int (I row)), (3, .int (I a)), (4, .int (I b)), (5, .int (I w)), (6, .int (I ov))]) (k := 1) hl dX3_plan_64 rfl (by decide) rfl (fun ls hl => ?_)
          refine j_goto J 37 dX3_plan_67 (by decide) ?_
          exact ih37 (rnS τ a b w ov) (if τ 18 11 < rnS τ a b w ov 18 11 then 1 else 0) (r + 1) (by omega) (by split <;> simp) (by rw [hτ]; exact rd_step hr0.1) (by intro hz; rcases hg.2.2.2.2.2 with e | e; (rw [e]; exact e); (rw [if_pos e] at hz; exact absurd hz (by decide))) (by omega) _ _ _ hw (lv_sub hl [0, 2, 3, 4, 5, 6, 7, 8, 1] rfl)
  exact L37 _ (st (st (st (fl σ 9 0 (lenX 9)) 18 10 row) 18 11 0) 18 12 (row * σ 18 0 + a)) 1 0 (by omega) (Or.inr rfl) (itI_0.symm) (fun h => absurd h (by decide)) (Nat.lt_succ_self _) _ _ _ hw (lv_sub hl [0, 2, 3, 4, 5, 6, 7, 8, 1] rfl)
theorem k_X3_plan {p : Program} {l : Launch} {e : Env} {R : Room} {s : State} {m : MethodId} {args : Array Value} {below : List Frame} {meth : Method} {c : Code} {H : Heap} {locs : List Loc} {Q : State → Prop} {cc : ByteArray} {pc : Nat} {ls : Array Slot} {rest : List Value} {nL : Nat} {own : String} {D : va_G} {σ : St} {cI cZ : ClassId} {ad : Nat → Nat} {index : Nat} {row a b w ov : Int} (hD : ∀ τ, va_D (AD ad 45) (wsX cI ad τ)) (hB : Bd σ) (hr : 0 ≤ row ∧ row < σ 18 1) (ha : 0 ≤ a ∧ a < σ 18 0) (hb : 0 ≤ b ∧ b < σ 18 0) (hw0 : 0 ≤ w ∧ w ≤ 200) (ho : 0 ≤ ov ∧ ov ≤ 50) (J : Jx p m c cc nL s args own D [(cI, .int), (cZ, .boolean)] (AD ad 45) (wsX cI ad)) (hw : jW D (AD ad 45) s.heap (wsX cI ad σ) H locs) (hsz : ls.size = nL) (hlk : Cond.methodLink own index yX3_plan ∈ TBw) (hR : 5 ≤ R.frames ∧ 126 ≤ R.locals) (hroom : (rest.map fun v => v.category).sum ≤ 8) (hdg : decode cc pc = .ok (.invokevirtual index, 3)) (kk : ∀ (H1 : Heap) (locs1 : List Loc), jW D (AD ad 45) s.heap (wsX cI ad (rd (p0S σ row a) a b w ov 200)) H1 locs1 → W p l e R s m args below meth c H1 locs1 0 0 Q (F0 m (pc + 3) ls rest)) : W p l e R s m args below meth c H locs 0 0 Q (F0 m pc ls (.int (I ov) :: .int (I w) :: .int (I b) :: .int (I a) :: .int (I row) :: .ref (ad 1) :: .ref (ad 5) :: rest)) := 
  j_callVv J hw (c_X3_plan  hD hB hr ha hb hw0 ho) hlk in_X3_plan se_X3_plan ini_X3 co_X3_plan (n := 6) (by decide +kernel) ⟨rfl, rfl, hR.1, hR.2⟩ (j := 5) (ci := 3) rfl rfl rfl rfl hroom hsz ⟨Nat.zero_le _, Nat.zero_le _⟩ rfl hdg (fun τ H1 locs1 hp hw1 => by subst hp; exact kk H1 locs1 hw1)
def rm_X3_digPlanned : Room := { frames := 2, cells := 0, slots := 0, locals := 45 }
set_option maxHeartbeats 4000000 in
set_option maxRecDepth 100000 in
theorem c_X3_digPlanned {l : Launch} {D : va_G} {cI cZ : ClassId} {ad : Nat → Nat} {σ : St}  (hD : ∀ τ, va_D (AD ad 45) (wsX cI ad τ)) (hd : Dim σ) (hr : 0 ≤ σ 18 10 ∧ σ 18 10 < σ 18 1) : JMv l yX3_digPlanned cX3_digPlanned 3 rm_X3_digPlanned D [(cI, .int), (cZ, .boolean)] (AD ad 45) (wsX cI ad) [.ref (ad 5), .ref (ad 1)] σ (fun τ => τ = dpS σ (σ 18 0)) := by
  refine JMv.of RX3 (by decide +kernel) rfl (Nat.le_of_ble_eq_true rfl) hD ?_
  intro p e s m args below meth c Q J fin H ls hw hl
  generalize ([] : List Loc) = locs at hw ⊢
  have hl : lv_has ls 3 [(0, .ref (ad 5)), (1, .ref (ad 1))] := hl
  have hd1 := hd.1; have hd2 := hd.2.1; have hd3 := hd.2.2.1; have hd4 := hd.2.2.2; have hm := hd.mul
  refine j_iconst J (0) dX3_digPlanned_0 ?_
  refine j_istore_n J (lv' := [(2, .int (I 0)), (0, .ref (ad 5)), (1, .ref (ad 1))]) hl dX3_digPlanned_1 rfl (by decide) rfl (fun ls hl => ?_)
  have L2 : ∀ n : Nat, ∀ (i : Int), (0 ≤ i ∧ i ≤ σ 18 0) → ((σ 18 0 - i).toNat) < n → ∀ (H : Heap) (locs : List Loc) (ls : Array Slot), jW D (AD ad 45) s.heap (wsX cI ad (dpS σ i)) H locs → lv_has ls 3 [(2, .int (I i)), (0, .ref (ad 5)), (1, .ref (ad 1))] → W p l e rm_X3_digPlanned s m args below meth c H locs 0 0 Q (F0 m 2 ls []) := by
    intro n
    induction n with
    | zero =>
      intro i hi0 hm H locs ls hw hl
      exact absurd hm (Nat.not_lt_zero _)
    | succ n ih =>
      intro i hi0 hm H locs ls hw hl
      have ih2 := ih
      refine j_iload_n J dX3_digPlanned_2 rfl (lv_at hl 0 rfl) ?_
      refine j_aload_n J dX3_digPlanned_3 rfl (lv_at hl 2 rfl) ?_
      refine xg_1_3 J hw lk_X3_63 dX3_digPlanned_4 ?_
      refine j_icmp_ge J 40 (show rg i by unfold rg; omega) (show rg (σ 18 0) by unfold rg; omega) dX3_digPlanned_7 (by decide) (fun (h_1 : (σ 18 0) ≤ i) => ?_) (fun (h_1 : i < (σ 18 0)) => ?_)
      · exact fin _ _ _ _ _ dX3_digPlanned_40 (by rw [show i = σ 18 0 by omega]) hw
      · refine j_aload_n J dX3_digPlanned_10 rfl (lv_at hl 2 rfl) ?_
        refine xg_1_0 J hw lk_X3_66 dX3_digPlanned_11 ?_
        refine j_aload_n J dX3_digPlanned_14 rfl (lv_at hl 2 rfl) ?_
        refine j_aload_n J dX3_digPlanned_15 rfl (lv_at hl 1 rfl) ?_
        refine xg_3_1 J hw lk_X3_23 dX3_digPlanned_16 ?_
        refine j_iload_n J dX3_digPlanned_19 rfl (lv_at hl 0 rfl) ?_
        refine k_X1_number (row := σ 18 10) (col := i) hD  J hw hl.1 lk_X3_30 ⟨Nat.le_of_ble_eq_true rfl, Nat.le_of_ble_eq_true rfl⟩ (Nat.le_of_ble_eq_true rfl) dX3_digPlanned_20 (fun H locs hw => ?_)
        refine j_aload_n J dX3_digPlanned_23 rfl (lv_at hl 1 rfl) ?_
        refine xg_3_0 J hw lk_X3_14 dX3_digPlanned_24 ?_
        refine j_iload_n J dX3_digPlanned_27 rfl (lv_at hl 0 rfl) ?_
        refine k_X2_get (k := 9) (i := i) hD (by decide) (show 0 ≤ i ∧ i < ((12 : Nat) : Int) from by omega) J hw hl.1 lk_X3_53 ⟨Nat.le_of_ble_eq_true rfl, Nat.le_of_ble_eq_true rfl⟩ (Nat.le_of_ble_eq_true rfl) dX3_digPlanned_28 (fun H locs hw => ?_)
        have hci := cell_in hr.1 hr.2 hi0.1 (show i < σ 18 0 by omega)
        refine k_X2_add (k := 1) (i := (σ 18 10) * σ 18 0 + i) (v := σ 9 i) hD (by decide) (show 0 ≤ (σ 18 10) * σ 18 0 + i ∧ ((σ 18 10) * σ 18 0 + i) < ((120 : Nat) : Int) from by omega) J hw hl.1 lk_X3_59 ⟨Nat.le_of_ble_eq_true rfl, Nat.le_of_ble_eq_true rfl⟩ (Nat.le_of_ble_eq_true rfl) dX3_digPlanned_31 (fun H locs hw => ?_)
        refine j_iinc J (lv' := [(2, .int (I (i + 1))), (0, .ref (ad 5)), (1, .ref (ad 1))]) (k := 0) hl dX3_digPlanned_34 rfl (by decide) rfl (fun ls hl => ?_)
        refine j_goto J 2 dX3_digPlanned_37 (by decide) ?_
        exact ih2 (i + 1) (by omega) (by omega) _ _ _ (by rw [← dpS_step hi0.1]; exact hw) (lv_sub hl [0, 1, 2] rfl)
  exact L2 _ 0 (by omega) (Nat.lt_succ_self _) _ _ _ (by rw [dpS_0]; exact hw) (lv_sub hl [0, 1, 2] rfl)
theorem k_X3_digPlanned {p : Program} {l : Launch} {e : Env} {R : Room} {s : State} {m : MethodId} {args : Array Value} {below : List Frame} {meth : Method} {c : Code} {H : Heap} {locs : List Loc} {Q : State → Prop} {cc : ByteArray} {pc : Nat} {ls : Array Slot} {rest : List Value} {nL : Nat} {own : String} {D : va_G} {σ : St} {cI cZ : ClassId} {ad : Nat → Nat} {index : Nat}  (hD : ∀ τ, va_D (AD ad 45) (wsX cI ad τ)) (hd : Dim σ) (hr : 0 ≤ σ 18 10 ∧ σ 18 10 < σ 18 1) (J : Jx p m c cc nL s args own D [(cI, .int), (cZ, .boolean)] (AD ad 45) (wsX cI ad)) (hw : jW D (AD ad 45) s.heap (wsX cI ad σ) H locs) (hsz : ls.size = nL) (hlk : Cond.methodLink own index yX3_digPlanned ∈ TBw) (hR : 3 ≤ R.frames ∧ 67 ≤ R.locals) (hroom : (rest.map fun v => v.category).sum ≤ 8) (hdg : decode cc pc = .ok (.invokevirtual index, 3)) (kk : ∀ (H1 : Heap) (locs1 : List Loc), jW D (AD ad 45) s.heap (wsX cI ad (dpS σ (σ 18 0))) H1 locs1 → W p l e R s m args below meth c H1 locs1 0 0 Q (F0 m (pc + 3) ls rest)) : W p l e R s m args below meth c H locs 0 0 Q (F0 m pc ls (.ref (ad 1) :: .ref (ad 5) :: rest)) := 
  j_callVv J hw (c_X3_digPlanned  hD hd hr) hlk in_X3_digPlanned se_X3_digPlanned ini_X3 co_X3_digPlanned (n := 1) (by decide +kernel) ⟨rfl, rfl, hR.1, hR.2⟩ (j := 5) (ci := 3) rfl rfl rfl rfl hroom hsz ⟨Nat.zero_le _, Nat.zero_le _⟩ rfl hdg (fun τ H1 locs1 hp hw1 => by subst hp; exact kk H1 locs1 hw1)
end
