section
-- ===== PART A: goes FIRST, ahead of the names: the tables' words, and 'selects' of the private methods out of them =====
/-- a private method of a class that the tables say can be made, by its rows of tables_1 -/
def lw_okq (q : MethodName × Nat) : Prop := (q.1.cls ≠ "java/lang/invoke/MethodHandle" ∧ q.1.cls ≠ "java/lang/invoke/VarHandle") ∧ Cond.instantiable q.1.cls q.2 ∈ tables_1 ∧ Cond.privateMethod q.1 ∈ tables_1 ∧ Cond.instanceMethod q.1 ∈ tables_1
theorem lw_p0 : lw_okq (⟨"ColdDryer", "places", "()I"⟩, 10) := ⟨⟨by decide +kernel, by decide +kernel⟩, List.mem_of_getElem? (i := 10) (by decide +kernel), List.mem_of_getElem? (i := 159) (by decide +kernel), List.mem_of_getElem? (i := 160) (by decide +kernel)⟩
theorem lw_p1 : lw_okq (⟨"ColdDryer", "isAtRim", "(I)Z"⟩, 10) := ⟨⟨by decide +kernel, by decide +kernel⟩, List.mem_of_getElem? (i := 10) (by decide +kernel), List.mem_of_getElem? (i := 216) (by decide +kernel), List.mem_of_getElem? (i := 217) (by decide +kernel)⟩
theorem lw_p2 : lw_okq (⟨"ColdDryer$Group", "balance", "(IIII)I"⟩, 8) := ⟨⟨by decide +kernel, by decide +kernel⟩, List.mem_of_getElem? (i := 40) (by decide +kernel), List.mem_of_getElem? (i := 274) (by decide +kernel), List.mem_of_getElem? (i := 275) (by decide +kernel)⟩
theorem lw_p3 : lw_okq (⟨"ColdDryer$Load", "pressureBehind", "(LColdDryer$Rules;)I"⟩, 7) := ⟨⟨by decide +kernel, by decide +kernel⟩, List.mem_of_getElem? (i := 34) (by decide +kernel), List.mem_of_getElem? (i := 282) (by decide +kernel), List.mem_of_getElem? (i := 283) (by decide +kernel)⟩
theorem lw_p4 : lw_okq (⟨"ColdDryer", "noneFalls", "(III)Z"⟩, 10) := ⟨⟨by decide +kernel, by decide +kernel⟩, List.mem_of_getElem? (i := 10) (by decide +kernel), List.mem_of_getElem? (i := 362) (by decide +kernel), List.mem_of_getElem? (i := 363) (by decide +kernel)⟩
theorem lw_p5 : lw_okq (⟨"ColdDryerModel", "vials", "()I"⟩, 21) := ⟨⟨by decide +kernel, by decide +kernel⟩, List.mem_of_getElem? (i := 381) (by decide +kernel), List.mem_of_getElem? (i := 460) (by decide +kernel), List.mem_of_getElem? (i := 461) (by decide +kernel)⟩
theorem lw_p6 : lw_okq (⟨"ColdDryerModel", "steamAt", "(III)I"⟩, 21) := ⟨⟨by decide +kernel, by decide +kernel⟩, List.mem_of_getElem? (i := 381) (by decide +kernel), List.mem_of_getElem? (i := 492) (by decide +kernel), List.mem_of_getElem? (i := 493) (by decide +kernel)⟩
theorem lw_p7 : lw_okq (⟨"ColdDryerModel", "isRim", "(I)Z"⟩, 21) := ⟨⟨by decide +kernel, by decide +kernel⟩, List.mem_of_getElem? (i := 381) (by decide +kernel), List.mem_of_getElem? (i := 500) (by decide +kernel), List.mem_of_getElem? (i := 501) (by decide +kernel)⟩
theorem lw_p8 : lw_okq (⟨"ColdDryerModel", "fill", "(II)V"⟩, 21) := ⟨⟨by decide +kernel, by decide +kernel⟩, List.mem_of_getElem? (i := 381) (by decide +kernel), List.mem_of_getElem? (i := 508) (by decide +kernel), List.mem_of_getElem? (i := 509) (by decide +kernel)⟩
theorem lw_p9 : lw_okq (⟨"ColdDryerModel", "goOn", "(III)V"⟩, 21) := ⟨⟨by decide +kernel, by decide +kernel⟩, List.mem_of_getElem? (i := 381) (by decide +kernel), List.mem_of_getElem? (i := 527) (by decide +kernel), List.mem_of_getElem? (i := 528) (by decide +kernel)⟩
theorem lw_p10 : lw_okq (⟨"ColdDryerModel", "warmthOf", "(III)I"⟩, 21) := ⟨⟨by decide +kernel, by decide +kernel⟩, List.mem_of_getElem? (i := 381) (by decide +kernel), List.mem_of_getElem? (i := 531) (by decide +kernel), List.mem_of_getElem? (i := 532) (by decide +kernel)⟩
theorem lw_p11 : lw_okq (⟨"ColdDryerModel", "holds", "(IIII)Z"⟩, 21) := ⟨⟨by decide +kernel, by decide +kernel⟩, List.mem_of_getElem? (i := 381) (by decide +kernel), List.mem_of_getElem? (i := 535) (by decide +kernel), List.mem_of_getElem? (i := 536) (by decide +kernel)⟩
theorem lw_p12 : lw_okq (⟨"ColdDryerModel", "wetOf", "(I)I"⟩, 21) := ⟨⟨by decide +kernel, by decide +kernel⟩, List.mem_of_getElem? (i := 381) (by decide +kernel), List.mem_of_getElem? (i := 539) (by decide +kernel), List.mem_of_getElem? (i := 540) (by decide +kernel)⟩
theorem lw_p13 : lw_okq (⟨"ColdDryerModel", "firstOf", "(I)I"⟩, 21) := ⟨⟨by decide +kernel, by decide +kernel⟩, List.mem_of_getElem? (i := 381) (by decide +kernel), List.mem_of_getElem? (i := 573) (by decide +kernel), List.mem_of_getElem? (i := 574) (by decide +kernel)⟩
theorem lw_p14 : lw_okq (⟨"ColdDryerModel", "tries", "(III)I"⟩, 21) := ⟨⟨by decide +kernel, by decide +kernel⟩, List.mem_of_getElem? (i := 381) (by decide +kernel), List.mem_of_getElem? (i := 581) (by decide +kernel), List.mem_of_getElem? (i := 582) (by decide +kernel)⟩
def lw_privs_1 : List (MethodName × Nat) := [(⟨"ColdDryer", "places", "()I"⟩, 10), (⟨"ColdDryer", "isAtRim", "(I)Z"⟩, 10), (⟨"ColdDryer$Group", "balance", "(IIII)I"⟩, 8), (⟨"ColdDryer$Load", "pressureBehind", "(LColdDryer$Rules;)I"⟩, 7), (⟨"ColdDryer", "noneFalls", "(III)Z"⟩, 10), (⟨"ColdDryerModel", "vials", "()I"⟩, 21), (⟨"ColdDryerModel", "steamAt", "(III)I"⟩, 21), (⟨"ColdDryerModel", "isRim", "(I)Z"⟩, 21), (⟨"ColdDryerModel", "fill", "(II)V"⟩, 21), (⟨"ColdDryerModel", "goOn", "(III)V"⟩, 21), (⟨"ColdDryerModel", "warmthOf", "(III)I"⟩, 21), (⟨"ColdDryerModel", "holds", "(IIII)Z"⟩, 21), (⟨"ColdDryerModel", "wetOf", "(I)I"⟩, 21), (⟨"ColdDryerModel", "firstOf", "(I)I"⟩, 21), (⟨"ColdDryerModel", "tries", "(III)I"⟩, 21)]
theorem lw_r1 : ∀ q ∈ lw_privs_1, lw_okq q := List.forall_mem_cons.mpr ⟨lw_p0, List.forall_mem_cons.mpr ⟨lw_p1, List.forall_mem_cons.mpr ⟨lw_p2, List.forall_mem_cons.mpr ⟨lw_p3, List.forall_mem_cons.mpr ⟨lw_p4, List.forall_mem_cons.mpr ⟨lw_p5, List.forall_mem_cons.mpr ⟨lw_p6, List.forall_mem_cons.mpr ⟨lw_p7, List.forall_mem_cons.mpr ⟨lw_p8, List.forall_mem_cons.mpr ⟨lw_p9, List.forall_mem_cons.mpr ⟨lw_p10, List.forall_mem_cons.mpr ⟨lw_p11, List.forall_mem_cons.mpr ⟨lw_p12, List.forall_mem_cons.mpr ⟨lw_p13, List.forall_mem_cons.mpr ⟨lw_p14, fun _ h => absurd h List.not_mem_nil⟩⟩⟩⟩⟩⟩⟩⟩⟩⟩⟩⟩⟩⟩⟩
def lw_privs : List (MethodName × Nat) := lw_privs_1
def lw_tbl : List Cond := k2_sels lw_privs ++ tables_1
theorem lw_privs_ok : ∀ q ∈ lw_privs, lw_okq q := lw_r1
/-! ===== BEGIN words of one list among another's, by their places ===== -/
theorem goodIn_r {big : List Cond} (ws : List Cond) (ps : List Nat) (hp : ws = ps.filterMap (fun i => big[i]?)) (h : ws.all goodWord = true) : GoodIn big ws := by
  intro w hw
  have h1 := List.all_eq_true.mp h w hw
  rw [hp] at hw
  obtain ⟨i, -, hi⟩ := List.mem_filterMap.mp hw
  have hm : w ∈ big := by first | exact List.mem_of_getElem? hi | exact List.getElem?_mem hi
  exact ⟨hm, good_of_word h1⟩
theorem goodIn_app {big a b : List Cond} (ha : GoodIn big a) (hb : GoodIn big b) : GoodIn big (a ++ b) := fun w h => (List.mem_append.mp h).elim (ha w) (hb w)
theorem goodIn_ca {big a b : List Cond} {c : Cond} (ha : GoodIn big (c :: a)) (hb : GoodIn big b) : GoodIn big (c :: (a ++ b)) := fun w h => (List.mem_cons.mp h).elim (fun e => ha w (List.mem_cons.mpr (Or.inl e))) (fun h => (List.mem_append.mp h).elim (fun h => ha w (List.mem_cons.mpr (Or.inr h))) (hb w))
theorem goodIn_sub {big ws : List Cond} (hm : ∀ w ∈ ws, w ∈ big) (h : ws.all goodWord = true) : GoodIn big ws := fun w hw => ⟨hm w hw, good_of_word (List.all_eq_true.mp h w hw)⟩
/-! ===== END ===== -/

/-! ===== BEGIN printed: names, fields, word lists, decode rows ===== -/
def RX0 : String := "ColdDryer$Group"
def TX0 : u_T := fun k => match k with
  | 0 => ("ColdDryer$Group", "vials", "I", false)
  | 1 => ("ColdDryer$Group", "firstNumber", "I", false)
  | 2 => ("ColdDryer$Group", "ice", "I", false)
  | 3 => ("ColdDryer$Group", "gave", "I", false)
  | 4 => ("ColdDryer$Group", "fellIn", "I", false)
  | 5 => ("ColdDryer$Group", "heat", "I", false)
  | 6 => ("ColdDryer$Group", "warmth", "I", false)
  | _ => ("ColdDryer$Group", "driedOut", "I", false)
def tyX0 : Nat → FieldType := fun k => match k with
  | 0 => .int
  | 1 => .int
  | 2 => .int
  | 3 => .int
  | 4 => .int
  | 5 => .int
  | 6 => .int
  | _ => .int
abbrev wsX00 : List Cond := u_ws RX0 TX0 8
theorem nmX0 : ∀ a, a < 8 → ∀ b, b < 8 → a ≠ b → (TX0 a).2.1 ≠ (TX0 b).2.1 := by decide +kernel
theorem tyX0_ok : ∀ k, k < 8 → parseFieldDescriptor (TX0 k).2.2.1 = some (tyX0 k) := by decide +kernel
abbrev cX0_init : ByteArray := prog_2_method_1_code
def yX0_init : MethodName := ⟨RX0, "<init>", "()V"⟩
abbrev cX0_fill : ByteArray := prog_2_method_2_code
def yX0_fill : MethodName := ⟨RX0, "fill", "(IIII)V"⟩
abbrev cX0_passMinute : ByteArray := prog_2_method_3_code
def yX0_passMinute : MethodName := ⟨RX0, "passMinute", "(LColdDryer$Rules;III)V"⟩
abbrev cX0_balance : ByteArray := prog_2_method_4_code
def yX0_balance : MethodName := ⟨RX0, "balance", "(IIII)I"⟩
abbrev cX0_tell : ByteArray := prog_2_method_5_code
def yX0_tell : MethodName := ⟨RX0, "tell", "(I)I"⟩
def RX1 : String := "ColdDryer$History"
def TX1 : u_T := fun k => match k with
  | 0 => ("ColdDryer$History", "one", "[I", true)
  | 1 => ("ColdDryer$History", "other", "[I", true)
  | _ => ("ColdDryer$History", "withIce", "[I", true)
def tyX1 : Nat → FieldType := fun k => match k with
  | 0 => .array .int
  | 1 => .array .int
  | _ => .array .int
abbrev wsX10 : List Cond := u_ws RX1 TX1 3
theorem nmX1 : ∀ a, a < 3 → ∀ b, b < 3 → a ≠ b → (TX1 a).2.1 ≠ (TX1 b).2.1 := by decide +kernel
theorem tyX1_ok : ∀ k, k < 3 → parseFieldDescriptor (TX1 k).2.2.1 = some (tyX1 k) := by decide +kernel
abbrev cX1_init : ByteArray := prog_3_method_1_code
def yX1_init : MethodName := ⟨RX1, "<init>", "()V"⟩
abbrev cX1_note : ByteArray := prog_3_method_2_code
def yX1_note : MethodName := ⟨RX1, "note", "(LColdDryer$Load;LColdDryer$Rules;)V"⟩
abbrev cX1_oneAt : ByteArray := prog_3_method_3_code
def yX1_oneAt : MethodName := ⟨RX1, "oneAt", "(I)I"⟩
abbrev cX1_otherAt : ByteArray := prog_3_method_4_code
def yX1_otherAt : MethodName := ⟨RX1, "otherAt", "(I)I"⟩
abbrev cX1_withIceAt : ByteArray := prog_3_method_5_code
def yX1_withIceAt : MethodName := ⟨RX1, "withIceAt", "(I)I"⟩
abbrev cX1_findEnd : ByteArray := prog_3_method_6_code
def yX1_findEnd : MethodName := ⟨RX1, "findEnd", "(III)I"⟩
abbrev cX1_holds : ByteArray := prog_3_method_7_code
def yX1_holds : MethodName := ⟨RX1, "holds", "(I)Z"⟩
def RX2 : String := "ColdDryer$Load"
def TX2 : u_T := fun k => match k with
  | 0 => ("ColdDryer$Load", "rimVials", "LColdDryer$Group;", true)
  | 1 => ("ColdDryer$Load", "innerVials", "LColdDryer$Group;", true)
  | 2 => ("ColdDryer$Load", "minute", "I", false)
  | 3 => ("ColdDryer$Load", "pressure", "I", false)
  | 4 => ("ColdDryer$Load", "greatestPressure", "I", false)
  | 5 => ("ColdDryer$Load", "allGave", "I", false)
  | _ => ("ColdDryer$Load", "gaveSoFar", "I", false)
def tyX2 : Nat → FieldType := fun k => match k with
  | 0 => .object "ColdDryer$Group"
  | 1 => .object "ColdDryer$Group"
  | 2 => .int
  | 3 => .int
  | 4 => .int
  | 5 => .int
  | _ => .int
abbrev wsX20 : List Cond := u_ws RX2 TX2 7
theorem nmX2 : ∀ a, a < 7 → ∀ b, b < 7 → a ≠ b → (TX2 a).2.1 ≠ (TX2 b).2.1 := by decide +kernel
theorem tyX2_ok : ∀ k, k < 7 → parseFieldDescriptor (TX2 k).2.2.1 = some (tyX2 k) := by decide +kernel
abbrev cX2_init : ByteArray := prog_4_method_1_code
def yX2_init : MethodName := ⟨RX2, "<init>", "()V"⟩
abbrev cX2_start : ByteArray := prog_4_method_2_code
def yX2_start : MethodName := ⟨RX2, "start", "(LColdDryer$Rules;III)V"⟩
abbrev cX2_passMinute : ByteArray := prog_4_method_3_code
def yX2_passMinute : MethodName := ⟨RX2, "passMinute", "(LColdDryer$Rules;II)V"⟩
abbrev cX2_pressureBehind : ByteArray := prog_4_method_4_code
def yX2_pressureBehind : MethodName := ⟨RX2, "pressureBehind", "(LColdDryer$Rules;)I"⟩
abbrev cX2_otherGauge : ByteArray := prog_4_method_5_code
def yX2_otherGauge : MethodName := ⟨RX2, "otherGauge", "(LColdDryer$Rules;)I"⟩
abbrev cX2_vialsWithIce : ByteArray := prog_4_method_6_code
def yX2_vialsWithIce : MethodName := ⟨RX2, "vialsWithIce", "()I"⟩
abbrev cX2_fallenVials : ByteArray := prog_4_method_7_code
def yX2_fallenVials : MethodName := ⟨RX2, "fallenVials", "()I"⟩
abbrev cX2_firstToFall : ByteArray := prog_4_method_8_code
def yX2_firstToFall : MethodName := ⟨RX2, "firstToFall", "()LColdDryer$Group;"⟩
abbrev cX2_firstVialToFall : ByteArray := prog_4_method_9_code
def yX2_firstVialToFall : MethodName := ⟨RX2, "firstVialToFall", "()I"⟩
abbrev cX2_tell : ByteArray := prog_4_method_10_code
def yX2_tell : MethodName := ⟨RX2, "tell", "(I)I"⟩
def RX3 : String := "ColdDryer$Rules"
def TX3 : u_T := fun k => match k with
  | _ => ("ColdDryer$Rules", "values", "[I", true)
def tyX3 : Nat → FieldType := fun k => match k with
  | _ => .array .int
abbrev wsX30 : List Cond := u_ws RX3 TX3 1
theorem nmX3 : ∀ a, a < 1 → ∀ b, b < 1 → a ≠ b → (TX3 a).2.1 ≠ (TX3 b).2.1 := by decide +kernel
theorem tyX3_ok : ∀ k, k < 1 → parseFieldDescriptor (TX3 k).2.2.1 = some (tyX3 k) := by decide +kernel
abbrev cX3_init : ByteArray := prog_5_method_1_code
def yX3_init : MethodName := ⟨RX3, "<init>", "()V"⟩
abbrev cX3_has : ByteArray := prog_5_method_2_code
def yX3_has : MethodName := ⟨RX3, "has", "(I)Z"⟩
abbrev cX3_allows : ByteArray := prog_5_method_3_code
def yX3_allows : MethodName := ⟨RX3, "allows", "(II)Z"⟩
abbrev cX3_valueOf : ByteArray := prog_5_method_4_code
def yX3_valueOf : MethodName := ⟨RX3, "valueOf", "(I)I"⟩
abbrev cX3_change : ByteArray := prog_5_method_5_code
def yX3_change : MethodName := ⟨RX3, "change", "(II)I"⟩
abbrev cX3_bars : ByteArray := prog_5_method_6_code
def yX3_bars : MethodName := ⟨RX3, "bars", "(I)I"⟩
def RX4 : String := "ColdDryer"
def TX4 : u_T := fun k => match k with
  | 0 => ("ColdDryer", "rules", "LColdDryer$Rules;", true)
  | 1 => ("ColdDryer", "current", "LColdDryer$Load;", true)
  | 2 => ("ColdDryer", "latestTrial", "LColdDryer$Load;", true)
  | 3 => ("ColdDryer", "history", "LColdDryer$History;", true)
  | 4 => ("ColdDryer", "rows", "I", false)
  | 5 => ("ColdDryer", "columns", "I", false)
  | 6 => ("ColdDryer", "shelfWarmth", "I", false)
  | 7 => ("ColdDryer", "setPressure", "I", false)
  | 8 => ("ColdDryer", "loaded", "Z", false)
  | _ => ("ColdDryer", "trialDone", "Z", false)
def tyX4 : Nat → FieldType := fun k => match k with
  | 0 => .object "ColdDryer$Rules"
  | 1 => .object "ColdDryer$Load"
  | 2 => .object "ColdDryer$Load"
  | 3 => .object "ColdDryer$History"
  | 4 => .int
  | 5 => .int
  | 6 => .int
  | 7 => .int
  | 8 => .boolean
  | _ => .boolean
abbrev wsX40 : List Cond := u_ws RX4 TX4 10
theorem nmX4 : ∀ a, a < 10 → ∀ b, b < 10 → a ≠ b → (TX4 a).2.1 ≠ (TX4 b).2.1 := by decide +kernel
theorem tyX4_ok : ∀ k, k < 10 → parseFieldDescriptor (TX4 k).2.2.1 = some (tyX4 k) := by decide +kernel
abbrev cX4_init : ByteArray := prog_1_method_1_code
def yX4_init : MethodName := ⟨RX4, "<init>", "()V"⟩
abbrev cX4_shelf : ByteArray := prog_1_method_2_code
def yX4_shelf : MethodName := ⟨RX4, "shelf", "(II)I"⟩
abbrev cX4_rule : ByteArray := prog_1_method_3_code
def yX4_rule : MethodName := ⟨RX4, "rule", "(II)I"⟩
abbrev cX4_vapour : ByteArray := prog_1_method_4_code
def yX4_vapour : MethodName := ⟨RX4, "vapour", "(I)I"⟩
abbrev cX4_steam : ByteArray := prog_1_method_5_code
def yX4_steam : MethodName := ⟨RX4, "steam", "(III)I"⟩
abbrev cX4_rim : ByteArray := prog_1_method_6_code
def yX4_rim : MethodName := ⟨RX4, "rim", "(I)I"⟩
abbrev cX4_load : ByteArray := prog_1_method_7_code
def yX4_load : MethodName := ⟨RX4, "load", "()I"⟩
abbrev cX4_warm : ByteArray := prog_1_method_8_code
def yX4_warm : MethodName := ⟨RX4, "warm", "(I)I"⟩
abbrev cX4_set : ByteArray := prog_1_method_9_code
def yX4_set : MethodName := ⟨RX4, "set", "(I)I"⟩
abbrev cX4_run : ByteArray := prog_1_method_10_code
def yX4_run : MethodName := ⟨RX4, "run", "(I)I"⟩
abbrev cX4_unload : ByteArray := prog_1_method_11_code
def yX4_unload : MethodName := ⟨RX4, "unload", "()I"⟩
abbrev cX4_vial : ByteArray := prog_1_method_12_code
def yX4_vial : MethodName := ⟨RX4, "vial", "(II)I"⟩
abbrev cX4_about : ByteArray := prog_1_method_13_code
def yX4_about : MethodName := ⟨RX4, "about", "(I)I"⟩
abbrev cX4_gauge : ByteArray := prog_1_method_14_code
def yX4_gauge : MethodName := ⟨RX4, "gauge", "(II)I"⟩
abbrev cX4_end : ByteArray := prog_1_method_15_code
def yX4_end : MethodName := ⟨RX4, "end", "(II)I"⟩
abbrev cX4_wet : ByteArray := prog_1_method_16_code
def yX4_wet : MethodName := ⟨RX4, "wet", "(I)I"⟩
abbrev cX4_firstFallen : ByteArray := prog_1_method_17_code
def yX4_firstFallen : MethodName := ⟨RX4, "firstFallen", "()I"⟩
abbrev cX4_trial : ByteArray := prog_1_method_18_code
def yX4_trial : MethodName := ⟨RX4, "trial", "(III)I"⟩
abbrev cX4_tried : ByteArray := prog_1_method_19_code
def yX4_tried : MethodName := ⟨RX4, "tried", "(I)I"⟩
abbrev cX4_edge : ByteArray := prog_1_method_20_code
def yX4_edge : MethodName := ⟨RX4, "edge", "(II)I"⟩
abbrev cX4_told : ByteArray := prog_1_method_21_code
def yX4_told : MethodName := ⟨RX4, "told", "(I)I"⟩
abbrev cX4_places : ByteArray := prog_1_method_22_code
def yX4_places : MethodName := ⟨RX4, "places", "()I"⟩
abbrev cX4_isAtRim : ByteArray := prog_1_method_23_code
def yX4_isAtRim : MethodName := ⟨RX4, "isAtRim", "(I)Z"⟩
abbrev cX4_isMapped : ByteArray := prog_1_method_24_code
def yX4_isMapped : MethodName := ⟨RX4, "isMapped", "(II)Z"⟩
abbrev cX4_noneFalls : ByteArray := prog_1_method_25_code
def yX4_noneFalls : MethodName := ⟨RX4, "noneFalls", "(III)Z"⟩
abbrev cX4_within : ByteArray := prog_1_method_26_code
def yX4_within : MethodName := ⟨RX4, "within", "(III)Z"⟩
abbrev cX4_quotient : ByteArray := prog_1_method_27_code
def yX4_quotient : MethodName := ⟨RX4, "quotient", "(II)I"⟩
abbrev cX4_vapourAt : ByteArray := prog_1_method_28_code
def yX4_vapourAt : MethodName := ⟨RX4, "vapourAt", "(I)I"⟩
abbrev cX4_steamAt : ByteArray := prog_1_method_29_code
def yX4_steamAt : MethodName := ⟨RX4, "steamAt", "(III)I"⟩
def RX5 : String := "ColdDryerModel"
def TX5 : u_T := fun k => match k with
  | 0 => ("ColdDryerModel", "rows", "I", false)
  | 1 => ("ColdDryerModel", "columns", "I", false)
  | 2 => ("ColdDryerModel", "rules", "[I", true)
  | 3 => ("ColdDryerModel", "isLoaded", "Z", false)
  | 4 => ("ColdDryerModel", "warmth", "I", false)
  | 5 => ("ColdDryerModel", "pressureSet", "I", false)
  | 6 => ("ColdDryerModel", "ice", "[I", true)
  | 7 => ("ColdDryerModel", "warm", "[I", true)
  | 8 => ("ColdDryerModel", "gave", "[I", true)
  | 9 => ("ColdDryerModel", "fell", "[I", true)
  | 10 => ("ColdDryerModel", "dryAt", "[I", true)
  | 11 => ("ColdDryerModel", "minute", "[I", true)
  | 12 => ("ColdDryerModel", "pressure", "[I", true)
  | 13 => ("ColdDryerModel", "highest", "[I", true)
  | 14 => ("ColdDryerModel", "all", "[I", true)
  | 15 => ("ColdDryerModel", "steamed", "[I", true)
  | 16 => ("ColdDryerModel", "one", "[I", true)
  | 17 => ("ColdDryerModel", "other", "[I", true)
  | 18 => ("ColdDryerModel", "wet", "[I", true)
  | 19 => ("ColdDryerModel", "hasTried", "Z", false)
  | _ => ("ColdDryerModel", "tried", "[I", true)
def tyX5 : Nat → FieldType := fun k => match k with
  | 0 => .int
  | 1 => .int
  | 2 => .array .int
  | 3 => .boolean
  | 4 => .int
  | 5 => .int
  | 6 => .array .int
  | 7 => .array .int
  | 8 => .array .int
  | 9 => .array .int
  | 10 => .array .int
  | 11 => .array .int
  | 12 => .array .int
  | 13 => .array .int
  | 14 => .array .int
  | 15 => .array .int
  | 16 => .array .int
  | 17 => .array .int
  | 18 => .array .int
  | 19 => .boolean
  | _ => .array .int
abbrev wsX50 : List Cond := u_ws RX5 TX5 21
theorem nmX5 : ∀ a, a < 21 → ∀ b, b < 21 → a ≠ b → (TX5 a).2.1 ≠ (TX5 b).2.1 := by decide +kernel
theorem tyX5_ok : ∀ k, k < 21 → parseFieldDescriptor (TX5 k).2.2.1 = some (tyX5 k) := by decide +kernel
abbrev cX5_init : ByteArray := prog_7_method_1_code
def yX5_init : MethodName := ⟨RX5, "<init>", "()V"⟩
abbrev cX5_in : ByteArray := prog_7_method_3_code
def yX5_in : MethodName := ⟨RX5, "in", "(JJJ)Z"⟩
abbrev cX5_vials : ByteArray := prog_7_method_4_code
def yX5_vials : MethodName := ⟨RX5, "vials", "()I"⟩
abbrev cX5_shelf : ByteArray := prog_7_method_5_code
def yX5_shelf : MethodName := ⟨RX5, "shelf", "(II)I"⟩
abbrev cX5_leastOf : ByteArray := prog_7_method_6_code
def yX5_leastOf : MethodName := ⟨RX5, "leastOf", "(I)I"⟩
abbrev cX5_mostOf : ByteArray := prog_7_method_7_code
def yX5_mostOf : MethodName := ⟨RX5, "mostOf", "(I)I"⟩
abbrev cX5_rule : ByteArray := prog_7_method_8_code
def yX5_rule : MethodName := ⟨RX5, "rule", "(II)I"⟩
abbrev cX5_bend : ByteArray := prog_7_method_9_code
def yX5_bend : MethodName := ⟨RX5, "bend", "(I)I"⟩
abbrev cX5_vapourAt : ByteArray := prog_7_method_10_code
def yX5_vapourAt : MethodName := ⟨RX5, "vapourAt", "(I)I"⟩
abbrev cX5_vapour : ByteArray := prog_7_method_11_code
def yX5_vapour : MethodName := ⟨RX5, "vapour", "(I)I"⟩
abbrev cX5_steamAt : ByteArray := prog_7_method_12_code
def yX5_steamAt : MethodName := ⟨RX5, "steamAt", "(III)I"⟩
abbrev cX5_steam : ByteArray := prog_7_method_13_code
def yX5_steam : MethodName := ⟨RX5, "steam", "(III)I"⟩
abbrev cX5_isRim : ByteArray := prog_7_method_14_code
def yX5_isRim : MethodName := ⟨RX5, "isRim", "(I)Z"⟩
abbrev cX5_rim : ByteArray := prog_7_method_15_code
def yX5_rim : MethodName := ⟨RX5, "rim", "(I)I"⟩
abbrev cX5_fill : ByteArray := prog_7_method_16_code
def yX5_fill : MethodName := ⟨RX5, "fill", "(II)V"⟩
abbrev cX5_holds : ByteArray := prog_7_method_17_code
def yX5_holds : MethodName := ⟨RX5, "holds", "(IIII)Z"⟩
abbrev cX5_warmthOf : ByteArray := prog_7_method_18_code
def yX5_warmthOf : MethodName := ⟨RX5, "warmthOf", "(III)I"⟩
abbrev cX5_goOn : ByteArray := prog_7_method_19_code
def yX5_goOn : MethodName := ⟨RX5, "goOn", "(III)V"⟩
abbrev cX5_wetOf : ByteArray := prog_7_method_20_code
def yX5_wetOf : MethodName := ⟨RX5, "wetOf", "(I)I"⟩
abbrev cX5_firstOf : ByteArray := prog_7_method_21_code
def yX5_firstOf : MethodName := ⟨RX5, "firstOf", "(I)I"⟩
abbrev cX5_load : ByteArray := prog_7_method_22_code
def yX5_load : MethodName := ⟨RX5, "load", "()I"⟩
abbrev cX5_warm : ByteArray := prog_7_method_23_code
def yX5_warm : MethodName := ⟨RX5, "warm", "(I)I"⟩
abbrev cX5_set : ByteArray := prog_7_method_24_code
def yX5_set : MethodName := ⟨RX5, "set", "(I)I"⟩
abbrev cX5_run : ByteArray := prog_7_method_25_code
def yX5_run : MethodName := ⟨RX5, "run", "(I)I"⟩
abbrev cX5_unload : ByteArray := prog_7_method_26_code
def yX5_unload : MethodName := ⟨RX5, "unload", "()I"⟩
abbrev cX5_vial : ByteArray := prog_7_method_27_code
def yX5_vial : MethodName := ⟨RX5, "vial", "(II)I"⟩
abbrev cX5_about : ByteArray := prog_7_method_28_code
def yX5_about : MethodName := ⟨RX5, "about", "(I)I"⟩
abbrev cX5_gauge : ByteArray := prog_7_method_29_code
def yX5_gauge : MethodName := ⟨RX5, "gauge", "(II)I"⟩
abbrev cX5_end : ByteArray := prog_7_method_30_code
def yX5_end : MethodName := ⟨RX5, "end", "(II)I"⟩
abbrev cX5_wet : ByteArray := prog_7_method_31_code
def yX5_wet : MethodName := ⟨RX5, "wet", "(I)I"⟩
abbrev cX5_firstFallen : ByteArray := prog_7_method_32_code
def yX5_firstFallen : MethodName := ⟨RX5, "firstFallen", "()I"⟩
abbrev cX5_tries : ByteArray := prog_7_method_33_code
def yX5_tries : MethodName := ⟨RX5, "tries", "(III)I"⟩
abbrev cX5_trial : ByteArray := prog_7_method_34_code
def yX5_trial : MethodName := ⟨RX5, "trial", "(III)I"⟩
abbrev cX5_tried : ByteArray := prog_7_method_35_code
def yX5_tried : MethodName := ⟨RX5, "tried", "(I)I"⟩
abbrev cX5_edge : ByteArray := prog_7_method_36_code
def yX5_edge : MethodName := ⟨RX5, "edge", "(II)I"⟩
abbrev cX5_told : ByteArray := prog_7_method_37_code
def yX5_told : MethodName := ⟨RX5, "told", "(I)I"⟩
def RJ9 : String := "java/lang/Math"
def TJ9 : u_T := fun k => match k with
  | _ => ("", "", "", false)
def tyJ9 : Nat → FieldType := fun k => match k with
  | _ => .int
abbrev wsJ90 : List Cond := u_ws RJ9 TJ9 0
theorem nmJ9 : ∀ a, a < 0 → ∀ b, b < 0 → a ≠ b → (TJ9 a).2.1 ≠ (TJ9 b).2.1 := by decide +kernel
theorem tyJ9_ok : ∀ k, k < 0 → parseFieldDescriptor (TJ9 k).2.2.1 = some (tyJ9 k) := by decide +kernel
abbrev cJ9_max_7cf53 : ByteArray := prog_8_method_65_code
def yJ9_max_7cf53 : MethodName := ⟨RJ9, "max", "(II)I"⟩
abbrev cJ9_min_7cf53 : ByteArray := prog_8_method_69_code
def yJ9_min_7cf53 : MethodName := ⟨RJ9, "min", "(II)I"⟩
def RJ10 : String := "java/lang/System"
def TJ10 : u_T := fun k => match k with
  | _ => ("", "", "", false)
def tyJ10 : Nat → FieldType := fun k => match k with
  | _ => .int
abbrev wsJ100 : List Cond := u_ws RJ10 TJ10 0
theorem nmJ10 : ∀ a, a < 0 → ∀ b, b < 0 → a ≠ b → (TJ10 a).2.1 ≠ (TJ10 b).2.1 := by decide +kernel
theorem tyJ10_ok : ∀ k, k < 0 → parseFieldDescriptor (TJ10 k).2.2.1 = some (tyJ10 k) := by decide +kernel
def RL : String := "ColdDryerLaw"
abbrev cL_law : ByteArray := code
def yL_law : MethodName := ⟨RL, "law", "([I)Z"⟩
abbrev vwCl : List vw_C := [(RX0, TX0, 8), (RX1, TX1, 3), (RX2, TX2, 7), (RX3, TX3, 1), (RX4, TX4, 10), (RX5, TX5, 21)]
end
section
theorem dX0_init_0 : decode cX0_init 0 = .ok (.aload_n 0, 1) := by decide +kernel
theorem dX0_init_1 : decode cX0_init 1 = .ok (.invokespecial 3, 3) := by decide +kernel
theorem dX0_init_4 : decode cX0_init 4 = .ok (.return_, 1) := by decide +kernel
theorem dX0_fill_0 : decode cX0_fill 0 = .ok (.aload_n 0, 1) := by decide +kernel
theorem dX0_fill_1 : decode cX0_fill 1 = .ok (.iload_n 1, 1) := by decide +kernel
theorem dX0_fill_2 : decode cX0_fill 2 = .ok (.putfield 9, 3) := by decide +kernel
theorem dX0_fill_5 : decode cX0_fill 5 = .ok (.aload_n 0, 1) := by decide +kernel
theorem dX0_fill_6 : decode cX0_fill 6 = .ok (.iload_n 2, 1) := by decide +kernel
theorem dX0_fill_7 : decode cX0_fill 7 = .ok (.putfield 15, 3) := by decide +kernel
theorem dX0_fill_10 : decode cX0_fill 10 = .ok (.aload_n 0, 1) := by decide +kernel
theorem dX0_fill_11 : decode cX0_fill 11 = .ok (.iload_n 3, 1) := by decide +kernel
theorem dX0_fill_12 : decode cX0_fill 12 = .ok (.putfield 18, 3) := by decide +kernel
theorem dX0_fill_15 : decode cX0_fill 15 = .ok (.aload_n 0, 1) := by decide +kernel
theorem dX0_fill_16 : decode cX0_fill 16 = .ok (.iload_n 1, 1) := by decide +kernel
theorem dX0_fill_17 : decode cX0_fill 17 = .ok (.ifCond .le 8, 3) := by decide +kernel
theorem dX0_fill_20 : decode cX0_fill 20 = .ok (.iload 4, 2) := by decide +kernel
theorem dX0_fill_22 : decode cX0_fill 22 = .ok (.goto 4, 3) := by decide +kernel
theorem dX0_fill_25 : decode cX0_fill 25 = .ok (.iconst 0, 1) := by decide +kernel
theorem dX0_fill_26 : decode cX0_fill 26 = .ok (.putfield 21, 3) := by decide +kernel
theorem dX0_fill_29 : decode cX0_fill 29 = .ok (.aload_n 0, 1) := by decide +kernel
theorem dX0_fill_30 : decode cX0_fill 30 = .ok (.iconst 0, 1) := by decide +kernel
theorem dX0_fill_31 : decode cX0_fill 31 = .ok (.putfield 24, 3) := by decide +kernel
theorem dX0_fill_34 : decode cX0_fill 34 = .ok (.aload_n 0, 1) := by decide +kernel
theorem dX0_fill_35 : decode cX0_fill 35 = .ok (.bipush (-6), 2) := by decide +kernel
theorem dX0_fill_37 : decode cX0_fill 37 = .ok (.putfield 27, 3) := by decide +kernel
theorem dX0_fill_40 : decode cX0_fill 40 = .ok (.aload_n 0, 1) := by decide +kernel
theorem dX0_fill_41 : decode cX0_fill 41 = .ok (.bipush (-6), 2) := by decide +kernel
theorem dX0_fill_43 : decode cX0_fill 43 = .ok (.putfield 30, 3) := by decide +kernel
theorem dX0_fill_46 : decode cX0_fill 46 = .ok (.aload_n 0, 1) := by decide +kernel
theorem dX0_fill_47 : decode cX0_fill 47 = .ok (.bipush (-6), 2) := by decide +kernel
theorem dX0_fill_49 : decode cX0_fill 49 = .ok (.putfield 33, 3) := by decide +kernel
theorem dX0_fill_52 : decode cX0_fill 52 = .ok (.return_, 1) := by decide +kernel
theorem dX0_passMinute_0 : decode cX0_passMinute 0 = .ok (.aload_n 0, 1) := by decide +kernel
theorem dX0_passMinute_1 : decode cX0_passMinute 1 = .ok (.getfield 21, 3) := by decide +kernel
theorem dX0_passMinute_4 : decode cX0_passMinute 4 = .ok (.ifCond .ne 14, 3) := by decide +kernel
theorem dX0_passMinute_7 : decode cX0_passMinute 7 = .ok (.aload_n 0, 1) := by decide +kernel
theorem dX0_passMinute_8 : decode cX0_passMinute 8 = .ok (.iload_n 2, 1) := by decide +kernel
theorem dX0_passMinute_9 : decode cX0_passMinute 9 = .ok (.putfield 27, 3) := by decide +kernel
theorem dX0_passMinute_12 : decode cX0_passMinute 12 = .ok (.aload_n 0, 1) := by decide +kernel
theorem dX0_passMinute_13 : decode cX0_passMinute 13 = .ok (.iconst 0, 1) := by decide +kernel
theorem dX0_passMinute_14 : decode cX0_passMinute 14 = .ok (.putfield 24, 3) := by decide +kernel
theorem dX0_passMinute_17 : decode cX0_passMinute 17 = .ok (.return_, 1) := by decide +kernel
theorem dX0_passMinute_18 : decode cX0_passMinute 18 = .ok (.aload_n 1, 1) := by decide +kernel
theorem dX0_passMinute_19 : decode cX0_passMinute 19 = .ok (.iconst 0, 1) := by decide +kernel
theorem dX0_passMinute_20 : decode cX0_passMinute 20 = .ok (.invokevirtual 38, 3) := by decide +kernel
theorem dX0_passMinute_23 : decode cX0_passMinute 23 = .ok (.istore 5, 2) := by decide +kernel
theorem dX0_passMinute_25 : decode cX0_passMinute 25 = .ok (.aload_n 1, 1) := by decide +kernel
theorem dX0_passMinute_26 : decode cX0_passMinute 26 = .ok (.bipush 100, 2) := by decide +kernel
theorem dX0_passMinute_28 : decode cX0_passMinute 28 = .ok (.iload 5, 2) := by decide +kernel
theorem dX0_passMinute_30 : decode cX0_passMinute 30 = .ok (.aload_n 0, 1) := by decide +kernel
theorem dX0_passMinute_31 : decode cX0_passMinute 31 = .ok (.getfield 21, 3) := by decide +kernel
theorem dX0_passMinute_34 : decode cX0_passMinute 34 = .ok (.isub, 1) := by decide +kernel
theorem dX0_passMinute_35 : decode cX0_passMinute 35 = .ok (.imul, 1) := by decide +kernel
theorem dX0_passMinute_36 : decode cX0_passMinute 36 = .ok (.iload 5, 2) := by decide +kernel
theorem dX0_passMinute_38 : decode cX0_passMinute 38 = .ok (.invokestatic 42, 3) := by decide +kernel
theorem dX0_passMinute_41 : decode cX0_passMinute 41 = .ok (.invokevirtual 46, 3) := by decide +kernel
theorem dX0_passMinute_44 : decode cX0_passMinute 44 = .ok (.istore 6, 2) := by decide +kernel
theorem dX0_passMinute_46 : decode cX0_passMinute 46 = .ok (.aload_n 0, 1) := by decide +kernel
theorem dX0_passMinute_47 : decode cX0_passMinute 47 = .ok (.aload_n 0, 1) := by decide +kernel
theorem dX0_passMinute_48 : decode cX0_passMinute 48 = .ok (.iload_n 2, 1) := by decide +kernel
theorem dX0_passMinute_49 : decode cX0_passMinute 49 = .ok (.iload 6, 2) := by decide +kernel
theorem dX0_passMinute_51 : decode cX0_passMinute 51 = .ok (.iload_n 3, 1) := by decide +kernel
theorem dX0_passMinute_52 : decode cX0_passMinute 52 = .ok (.aload_n 1, 1) := by decide +kernel
theorem dX0_passMinute_53 : decode cX0_passMinute 53 = .ok (.iconst 3, 1) := by decide +kernel
theorem dX0_passMinute_54 : decode cX0_passMinute 54 = .ok (.invokevirtual 38, 3) := by decide +kernel
theorem dX0_passMinute_57 : decode cX0_passMinute 57 = .ok (.invokevirtual 49, 3) := by decide +kernel
theorem dX0_passMinute_60 : decode cX0_passMinute 60 = .ok (.putfield 27, 3) := by decide +kernel
theorem dX0_passMinute_63 : decode cX0_passMinute 63 = .ok (.aload_n 0, 1) := by decide +kernel
theorem dX0_passMinute_64 : decode cX0_passMinute 64 = .ok (.aload_n 0, 1) := by decide +kernel
theorem dX0_passMinute_65 : decode cX0_passMinute 65 = .ok (.getfield 21, 3) := by decide +kernel
theorem dX0_passMinute_68 : decode cX0_passMinute 68 = .ok (.aload_n 0, 1) := by decide +kernel
theorem dX0_passMinute_69 : decode cX0_passMinute 69 = .ok (.getfield 27, 3) := by decide +kernel
theorem dX0_passMinute_72 : decode cX0_passMinute 72 = .ok (.iload 6, 2) := by decide +kernel
theorem dX0_passMinute_74 : decode cX0_passMinute 74 = .ok (.iload_n 3, 1) := by decide +kernel
theorem dX0_passMinute_75 : decode cX0_passMinute 75 = .ok (.invokestatic 53, 3) := by decide +kernel
theorem dX0_passMinute_78 : decode cX0_passMinute 78 = .ok (.invokestatic 57, 3) := by decide +kernel
theorem dX0_passMinute_81 : decode cX0_passMinute 81 = .ok (.putfield 24, 3) := by decide +kernel
theorem dX0_passMinute_84 : decode cX0_passMinute 84 = .ok (.aload_n 0, 1) := by decide +kernel
theorem dX0_passMinute_85 : decode cX0_passMinute 85 = .ok (.dup, 1) := by decide +kernel
theorem dX0_passMinute_86 : decode cX0_passMinute 86 = .ok (.getfield 21, 3) := by decide +kernel
theorem dX0_passMinute_89 : decode cX0_passMinute 89 = .ok (.aload_n 0, 1) := by decide +kernel
theorem dX0_passMinute_90 : decode cX0_passMinute 90 = .ok (.getfield 24, 3) := by decide +kernel
theorem dX0_passMinute_93 : decode cX0_passMinute 93 = .ok (.isub, 1) := by decide +kernel
theorem dX0_passMinute_94 : decode cX0_passMinute 94 = .ok (.putfield 21, 3) := by decide +kernel
theorem dX0_passMinute_97 : decode cX0_passMinute 97 = .ok (.aload_n 0, 1) := by decide +kernel
theorem dX0_passMinute_98 : decode cX0_passMinute 98 = .ok (.getfield 21, 3) := by decide +kernel
theorem dX0_passMinute_101 : decode cX0_passMinute 101 = .ok (.ifCond .ne 9, 3) := by decide +kernel
theorem dX0_passMinute_104 : decode cX0_passMinute 104 = .ok (.aload_n 0, 1) := by decide +kernel
theorem dX0_passMinute_105 : decode cX0_passMinute 105 = .ok (.iload 4, 2) := by decide +kernel
theorem dX0_passMinute_107 : decode cX0_passMinute 107 = .ok (.putfield 33, 3) := by decide +kernel
theorem dX0_passMinute_110 : decode cX0_passMinute 110 = .ok (.aload_n 0, 1) := by decide +kernel
theorem dX0_passMinute_111 : decode cX0_passMinute 111 = .ok (.getfield 30, 3) := by decide +kernel
theorem dX0_passMinute_114 : decode cX0_passMinute 114 = .ok (.bipush (-6), 2) := by decide +kernel
theorem dX0_passMinute_116 : decode cX0_passMinute 116 = .ok (.if_icmp .ne 22, 3) := by decide +kernel
theorem dX0_passMinute_119 : decode cX0_passMinute 119 = .ok (.aload_n 0, 1) := by decide +kernel
theorem dX0_passMinute_120 : decode cX0_passMinute 120 = .ok (.getfield 27, 3) := by decide +kernel
theorem dX0_passMinute_123 : decode cX0_passMinute 123 = .ok (.aload_n 1, 1) := by decide +kernel
theorem dX0_passMinute_124 : decode cX0_passMinute 124 = .ok (.bipush 6, 2) := by decide +kernel
theorem dX0_passMinute_126 : decode cX0_passMinute 126 = .ok (.invokevirtual 38, 3) := by decide +kernel
theorem dX0_passMinute_129 : decode cX0_passMinute 129 = .ok (.if_icmp .le 9, 3) := by decide +kernel
theorem dX0_passMinute_132 : decode cX0_passMinute 132 = .ok (.aload_n 0, 1) := by decide +kernel
theorem dX0_passMinute_133 : decode cX0_passMinute 133 = .ok (.iload 4, 2) := by decide +kernel
theorem dX0_passMinute_135 : decode cX0_passMinute 135 = .ok (.putfield 30, 3) := by decide +kernel
theorem dX0_passMinute_138 : decode cX0_passMinute 138 = .ok (.return_, 1) := by decide +kernel
theorem dX0_balance_0 : decode cX0_balance 0 = .ok (.sipush (-600), 3) := by decide +kernel
theorem dX0_balance_3 : decode cX0_balance 3 = .ok (.istore 5, 2) := by decide +kernel
theorem dX0_balance_5 : decode cX0_balance 5 = .ok (.sipush 512, 3) := by decide +kernel
theorem dX0_balance_8 : decode cX0_balance 8 = .ok (.istore 6, 2) := by decide +kernel
theorem dX0_balance_10 : decode cX0_balance 10 = .ok (.iload 6, 2) := by decide +kernel
theorem dX0_balance_12 : decode cX0_balance 12 = .ok (.ifCond .le 53, 3) := by decide +kernel
theorem dX0_balance_15 : decode cX0_balance 15 = .ok (.iload 5, 2) := by decide +kernel
theorem dX0_balance_17 : decode cX0_balance 17 = .ok (.iload 6, 2) := by decide +kernel
theorem dX0_balance_19 : decode cX0_balance 19 = .ok (.iadd, 1) := by decide +kernel
theorem dX0_balance_20 : decode cX0_balance 20 = .ok (.istore 7, 2) := by decide +kernel
theorem dX0_balance_22 : decode cX0_balance 22 = .ok (.iload 7, 2) := by decide +kernel
theorem dX0_balance_24 : decode cX0_balance 24 = .ok (.ifCond .gt 32, 3) := by decide +kernel
theorem dX0_balance_27 : decode cX0_balance 27 = .ok (.iload 7, 2) := by decide +kernel
theorem dX0_balance_29 : decode cX0_balance 29 = .ok (.iload_n 2, 1) := by decide +kernel
theorem dX0_balance_30 : decode cX0_balance 30 = .ok (.iload_n 3, 1) := by decide +kernel
theorem dX0_balance_31 : decode cX0_balance 31 = .ok (.invokestatic 53, 3) := by decide +kernel
theorem dX0_balance_34 : decode cX0_balance 34 = .ok (.iload 4, 2) := by decide +kernel
theorem dX0_balance_36 : decode cX0_balance 36 = .ok (.imul, 1) := by decide +kernel
theorem dX0_balance_37 : decode cX0_balance 37 = .ok (.aload_n 0, 1) := by decide +kernel
theorem dX0_balance_38 : decode cX0_balance 38 = .ok (.getfield 18, 3) := by decide +kernel
theorem dX0_balance_41 : decode cX0_balance 41 = .ok (.iload_n 1, 1) := by decide +kernel
theorem dX0_balance_42 : decode cX0_balance 42 = .ok (.iload 7, 2) := by decide +kernel
theorem dX0_balance_44 : decode cX0_balance 44 = .ok (.isub, 1) := by decide +kernel
theorem dX0_balance_45 : decode cX0_balance 45 = .ok (.imul, 1) := by decide +kernel
theorem dX0_balance_46 : decode cX0_balance 46 = .ok (.bipush 10, 2) := by decide +kernel
theorem dX0_balance_48 : decode cX0_balance 48 = .ok (.idiv, 1) := by decide +kernel
theorem dX0_balance_49 : decode cX0_balance 49 = .ok (.if_icmp .gt 7, 3) := by decide +kernel
theorem dX0_balance_52 : decode cX0_balance 52 = .ok (.iload 7, 2) := by decide +kernel
theorem dX0_balance_54 : decode cX0_balance 54 = .ok (.istore 5, 2) := by decide +kernel
theorem dX0_balance_56 : decode cX0_balance 56 = .ok (.iload 6, 2) := by decide +kernel
theorem dX0_balance_58 : decode cX0_balance 58 = .ok (.iconst 2, 1) := by decide +kernel
theorem dX0_balance_59 : decode cX0_balance 59 = .ok (.idiv, 1) := by decide +kernel
theorem dX0_balance_60 : decode cX0_balance 60 = .ok (.istore 6, 2) := by decide +kernel
theorem dX0_balance_62 : decode cX0_balance 62 = .ok (.goto (-52), 3) := by decide +kernel
theorem dX0_balance_65 : decode cX0_balance 65 = .ok (.iload 5, 2) := by decide +kernel
theorem dX0_balance_67 : decode cX0_balance 67 = .ok (.ireturn, 1) := by decide +kernel
theorem dX0_tell_0 : decode cX0_tell 0 = .ok (.iload_n 1, 1) := by decide +kernel
theorem dX0_tell_1 : decode cX0_tell 1 = .ok (.tableswitch 51 0 3 #[31, 36, 41, 46], 31) := by decide +kernel
theorem dX0_tell_32 : decode cX0_tell 32 = .ok (.aload_n 0, 1) := by decide +kernel
theorem dX0_tell_33 : decode cX0_tell 33 = .ok (.getfield 21, 3) := by decide +kernel
theorem dX0_tell_36 : decode cX0_tell 36 = .ok (.ireturn, 1) := by decide +kernel
theorem dX0_tell_37 : decode cX0_tell 37 = .ok (.aload_n 0, 1) := by decide +kernel
theorem dX0_tell_38 : decode cX0_tell 38 = .ok (.getfield 27, 3) := by decide +kernel
theorem dX0_tell_41 : decode cX0_tell 41 = .ok (.ireturn, 1) := by decide +kernel
theorem dX0_tell_42 : decode cX0_tell 42 = .ok (.aload_n 0, 1) := by decide +kernel
theorem dX0_tell_43 : decode cX0_tell 43 = .ok (.getfield 24, 3) := by decide +kernel
theorem dX0_tell_46 : decode cX0_tell 46 = .ok (.ireturn, 1) := by decide +kernel
theorem dX0_tell_47 : decode cX0_tell 47 = .ok (.aload_n 0, 1) := by decide +kernel
theorem dX0_tell_48 : decode cX0_tell 48 = .ok (.getfield 30, 3) := by decide +kernel
theorem dX0_tell_51 : decode cX0_tell 51 = .ok (.ireturn, 1) := by decide +kernel
theorem dX0_tell_52 : decode cX0_tell 52 = .ok (.aload_n 0, 1) := by decide +kernel
theorem dX0_tell_53 : decode cX0_tell 53 = .ok (.getfield 33, 3) := by decide +kernel
theorem dX0_tell_56 : decode cX0_tell 56 = .ok (.ireturn, 1) := by decide +kernel
theorem dX1_init_0 : decode cX1_init 0 = .ok (.aload_n 0, 1) := by decide +kernel
theorem dX1_init_1 : decode cX1_init 1 = .ok (.invokespecial 3, 3) := by decide +kernel
theorem dX1_init_4 : decode cX1_init 4 = .ok (.aload_n 0, 1) := by decide +kernel
theorem dX1_init_5 : decode cX1_init 5 = .ok (.sipush 2001, 3) := by decide +kernel
theorem dX1_init_8 : decode cX1_init 8 = .ok (.newarray .int, 2) := by decide +kernel
theorem dX1_init_10 : decode cX1_init 10 = .ok (.putfield 9, 3) := by decide +kernel
theorem dX1_init_13 : decode cX1_init 13 = .ok (.aload_n 0, 1) := by decide +kernel
theorem dX1_init_14 : decode cX1_init 14 = .ok (.sipush 2001, 3) := by decide +kernel
theorem dX1_init_17 : decode cX1_init 17 = .ok (.newarray .int, 2) := by decide +kernel
theorem dX1_init_19 : decode cX1_init 19 = .ok (.putfield 15, 3) := by decide +kernel
theorem dX1_init_22 : decode cX1_init 22 = .ok (.aload_n 0, 1) := by decide +kernel
theorem dX1_init_23 : decode cX1_init 23 = .ok (.sipush 2001, 3) := by decide +kernel
theorem dX1_init_26 : decode cX1_init 26 = .ok (.newarray .int, 2) := by decide +kernel
theorem dX1_init_28 : decode cX1_init 28 = .ok (.putfield 18, 3) := by decide +kernel
theorem dX1_init_31 : decode cX1_init 31 = .ok (.return_, 1) := by decide +kernel
theorem dX1_note_0 : decode cX1_note 0 = .ok (.aload_n 1, 1) := by decide +kernel
theorem dX1_note_1 : decode cX1_note 1 = .ok (.getfield 21, 3) := by decide +kernel
theorem dX1_note_4 : decode cX1_note 4 = .ok (.istore_n 3, 1) := by decide +kernel
theorem dX1_note_5 : decode cX1_note 5 = .ok (.iload_n 3, 1) := by decide +kernel
theorem dX1_note_6 : decode cX1_note 6 = .ok (.invokestatic 27, 3) := by decide +kernel
theorem dX1_note_9 : decode cX1_note 9 = .ok (.ifCond .eq 34, 3) := by decide +kernel
theorem dX1_note_12 : decode cX1_note 12 = .ok (.aload_n 0, 1) := by decide +kernel
theorem dX1_note_13 : decode cX1_note 13 = .ok (.getfield 9, 3) := by decide +kernel
theorem dX1_note_16 : decode cX1_note 16 = .ok (.iload_n 3, 1) := by decide +kernel
theorem dX1_note_17 : decode cX1_note 17 = .ok (.aload_n 1, 1) := by decide +kernel
theorem dX1_note_18 : decode cX1_note 18 = .ok (.getfield 31, 3) := by decide +kernel
theorem dX1_note_21 : decode cX1_note 21 = .ok (.iastore, 1) := by decide +kernel
theorem dX1_note_22 : decode cX1_note 22 = .ok (.aload_n 0, 1) := by decide +kernel
theorem dX1_note_23 : decode cX1_note 23 = .ok (.getfield 15, 3) := by decide +kernel
theorem dX1_note_26 : decode cX1_note 26 = .ok (.iload_n 3, 1) := by decide +kernel
theorem dX1_note_27 : decode cX1_note 27 = .ok (.aload_n 1, 1) := by decide +kernel
theorem dX1_note_28 : decode cX1_note 28 = .ok (.aload_n 2, 1) := by decide +kernel
theorem dX1_note_29 : decode cX1_note 29 = .ok (.invokevirtual 34, 3) := by decide +kernel
theorem dX1_note_32 : decode cX1_note 32 = .ok (.iastore, 1) := by decide +kernel
theorem dX1_note_33 : decode cX1_note 33 = .ok (.aload_n 0, 1) := by decide +kernel
theorem dX1_note_34 : decode cX1_note 34 = .ok (.getfield 18, 3) := by decide +kernel
theorem dX1_note_37 : decode cX1_note 37 = .ok (.iload_n 3, 1) := by decide +kernel
theorem dX1_note_38 : decode cX1_note 38 = .ok (.aload_n 1, 1) := by decide +kernel
theorem dX1_note_39 : decode cX1_note 39 = .ok (.invokevirtual 38, 3) := by decide +kernel
theorem dX1_note_42 : decode cX1_note 42 = .ok (.iastore, 1) := by decide +kernel
theorem dX1_note_43 : decode cX1_note 43 = .ok (.return_, 1) := by decide +kernel
theorem dX1_oneAt_0 : decode cX1_oneAt 0 = .ok (.iload_n 1, 1) := by decide +kernel
theorem dX1_oneAt_1 : decode cX1_oneAt 1 = .ok (.invokestatic 27, 3) := by decide +kernel
theorem dX1_oneAt_4 : decode cX1_oneAt 4 = .ok (.ifCond .eq 12, 3) := by decide +kernel
theorem dX1_oneAt_7 : decode cX1_oneAt 7 = .ok (.aload_n 0, 1) := by decide +kernel
theorem dX1_oneAt_8 : decode cX1_oneAt 8 = .ok (.getfield 9, 3) := by decide +kernel
theorem dX1_oneAt_11 : decode cX1_oneAt 11 = .ok (.iload_n 1, 1) := by decide +kernel
theorem dX1_oneAt_12 : decode cX1_oneAt 12 = .ok (.iaload, 1) := by decide +kernel
theorem dX1_oneAt_13 : decode cX1_oneAt 13 = .ok (.goto 4, 3) := by decide +kernel
theorem dX1_oneAt_16 : decode cX1_oneAt 16 = .ok (.iconst (-1), 1) := by decide +kernel
theorem dX1_oneAt_17 : decode cX1_oneAt 17 = .ok (.ireturn, 1) := by decide +kernel
theorem dX1_otherAt_0 : decode cX1_otherAt 0 = .ok (.iload_n 1, 1) := by decide +kernel
theorem dX1_otherAt_1 : decode cX1_otherAt 1 = .ok (.invokestatic 27, 3) := by decide +kernel
theorem dX1_otherAt_4 : decode cX1_otherAt 4 = .ok (.ifCond .eq 12, 3) := by decide +kernel
theorem dX1_otherAt_7 : decode cX1_otherAt 7 = .ok (.aload_n 0, 1) := by decide +kernel
theorem dX1_otherAt_8 : decode cX1_otherAt 8 = .ok (.getfield 15, 3) := by decide +kernel
theorem dX1_otherAt_11 : decode cX1_otherAt 11 = .ok (.iload_n 1, 1) := by decide +kernel
theorem dX1_otherAt_12 : decode cX1_otherAt 12 = .ok (.iaload, 1) := by decide +kernel
theorem dX1_otherAt_13 : decode cX1_otherAt 13 = .ok (.goto 4, 3) := by decide +kernel
theorem dX1_otherAt_16 : decode cX1_otherAt 16 = .ok (.iconst (-1), 1) := by decide +kernel
theorem dX1_otherAt_17 : decode cX1_otherAt 17 = .ok (.ireturn, 1) := by decide +kernel
theorem dX1_withIceAt_0 : decode cX1_withIceAt 0 = .ok (.iload_n 1, 1) := by decide +kernel
theorem dX1_withIceAt_1 : decode cX1_withIceAt 1 = .ok (.invokestatic 27, 3) := by decide +kernel
theorem dX1_withIceAt_4 : decode cX1_withIceAt 4 = .ok (.ifCond .eq 12, 3) := by decide +kernel
theorem dX1_withIceAt_7 : decode cX1_withIceAt 7 = .ok (.aload_n 0, 1) := by decide +kernel
theorem dX1_withIceAt_8 : decode cX1_withIceAt 8 = .ok (.getfield 18, 3) := by decide +kernel
theorem dX1_withIceAt_11 : decode cX1_withIceAt 11 = .ok (.iload_n 1, 1) := by decide +kernel
theorem dX1_withIceAt_12 : decode cX1_withIceAt 12 = .ok (.iaload, 1) := by decide +kernel
theorem dX1_withIceAt_13 : decode cX1_withIceAt 13 = .ok (.goto 4, 3) := by decide +kernel
theorem dX1_withIceAt_16 : decode cX1_withIceAt 16 = .ok (.iconst (-1), 1) := by decide +kernel
theorem dX1_withIceAt_17 : decode cX1_withIceAt 17 = .ok (.ireturn, 1) := by decide +kernel
theorem dX1_findEnd_0 : decode cX1_findEnd 0 = .ok (.iconst 0, 1) := by decide +kernel
theorem dX1_findEnd_1 : decode cX1_findEnd 1 = .ok (.istore 4, 2) := by decide +kernel
theorem dX1_findEnd_3 : decode cX1_findEnd 3 = .ok (.iconst 1, 1) := by decide +kernel
theorem dX1_findEnd_4 : decode cX1_findEnd 4 = .ok (.istore 5, 2) := by decide +kernel
theorem dX1_findEnd_6 : decode cX1_findEnd 6 = .ok (.iload 5, 2) := by decide +kernel
theorem dX1_findEnd_8 : decode cX1_findEnd 8 = .ok (.iload_n 1, 1) := by decide +kernel
theorem dX1_findEnd_9 : decode cX1_findEnd 9 = .ok (.if_icmp .gt 45, 3) := by decide +kernel
theorem dX1_findEnd_12 : decode cX1_findEnd 12 = .ok (.aload_n 0, 1) := by decide +kernel
theorem dX1_findEnd_13 : decode cX1_findEnd 13 = .ok (.iload 5, 2) := by decide +kernel
theorem dX1_findEnd_15 : decode cX1_findEnd 15 = .ok (.invokevirtual 42, 3) := by decide +kernel
theorem dX1_findEnd_18 : decode cX1_findEnd 18 = .ok (.aload_n 0, 1) := by decide +kernel
theorem dX1_findEnd_19 : decode cX1_findEnd 19 = .ok (.iload 5, 2) := by decide +kernel
theorem dX1_findEnd_21 : decode cX1_findEnd 21 = .ok (.invokevirtual 46, 3) := by decide +kernel
theorem dX1_findEnd_24 : decode cX1_findEnd 24 = .ok (.isub, 1) := by decide +kernel
theorem dX1_findEnd_25 : decode cX1_findEnd 25 = .ok (.iload_n 2, 1) := by decide +kernel
theorem dX1_findEnd_26 : decode cX1_findEnd 26 = .ok (.if_icmp .gt 10, 3) := by decide +kernel
theorem dX1_findEnd_29 : decode cX1_findEnd 29 = .ok (.iload 4, 2) := by decide +kernel
theorem dX1_findEnd_31 : decode cX1_findEnd 31 = .ok (.iconst 1, 1) := by decide +kernel
theorem dX1_findEnd_32 : decode cX1_findEnd 32 = .ok (.iadd, 1) := by decide +kernel
theorem dX1_findEnd_33 : decode cX1_findEnd 33 = .ok (.goto 4, 3) := by decide +kernel
theorem dX1_findEnd_36 : decode cX1_findEnd 36 = .ok (.iconst 0, 1) := by decide +kernel
theorem dX1_findEnd_37 : decode cX1_findEnd 37 = .ok (.istore 4, 2) := by decide +kernel
theorem dX1_findEnd_39 : decode cX1_findEnd 39 = .ok (.iload 4, 2) := by decide +kernel
theorem dX1_findEnd_41 : decode cX1_findEnd 41 = .ok (.iload_n 3, 1) := by decide +kernel
theorem dX1_findEnd_42 : decode cX1_findEnd 42 = .ok (.if_icmp .lt 6, 3) := by decide +kernel
theorem dX1_findEnd_45 : decode cX1_findEnd 45 = .ok (.iload 5, 2) := by decide +kernel
theorem dX1_findEnd_47 : decode cX1_findEnd 47 = .ok (.ireturn, 1) := by decide +kernel
theorem dX1_findEnd_48 : decode cX1_findEnd 48 = .ok (.iinc 5 1, 3) := by decide +kernel
theorem dX1_findEnd_51 : decode cX1_findEnd 51 = .ok (.goto (-45), 3) := by decide +kernel
theorem dX1_findEnd_54 : decode cX1_findEnd 54 = .ok (.bipush (-6), 2) := by decide +kernel
theorem dX1_findEnd_56 : decode cX1_findEnd 56 = .ok (.ireturn, 1) := by decide +kernel
theorem dX1_holds_0 : decode cX1_holds 0 = .ok (.iload_n 0, 1) := by decide +kernel
theorem dX1_holds_1 : decode cX1_holds 1 = .ok (.iconst 0, 1) := by decide +kernel
theorem dX1_holds_2 : decode cX1_holds 2 = .ok (.sipush 2000, 3) := by decide +kernel
theorem dX1_holds_5 : decode cX1_holds 5 = .ok (.invokestatic 49, 3) := by decide +kernel
theorem dX1_holds_8 : decode cX1_holds 8 = .ok (.ireturn, 1) := by decide +kernel
theorem dX2_init_0 : decode cX2_init 0 = .ok (.aload_n 0, 1) := by decide +kernel
theorem dX2_init_1 : decode cX2_init 1 = .ok (.invokespecial 3, 3) := by decide +kernel
theorem dX2_init_4 : decode cX2_init 4 = .ok (.aload_n 0, 1) := by decide +kernel
theorem dX2_init_5 : decode cX2_init 5 = .ok (.new 9, 3) := by decide +kernel
theorem dX2_init_8 : decode cX2_init 8 = .ok (.dup, 1) := by decide +kernel
theorem dX2_init_9 : decode cX2_init 9 = .ok (.invokespecial 11, 3) := by decide +kernel
theorem dX2_init_12 : decode cX2_init 12 = .ok (.putfield 12, 3) := by decide +kernel
theorem dX2_init_15 : decode cX2_init 15 = .ok (.aload_n 0, 1) := by decide +kernel
theorem dX2_init_16 : decode cX2_init 16 = .ok (.new 9, 3) := by decide +kernel
theorem dX2_init_19 : decode cX2_init 19 = .ok (.dup, 1) := by decide +kernel
theorem dX2_init_20 : decode cX2_init 20 = .ok (.invokespecial 11, 3) := by decide +kernel
theorem dX2_init_23 : decode cX2_init 23 = .ok (.putfield 18, 3) := by decide +kernel
theorem dX2_init_26 : decode cX2_init 26 = .ok (.return_, 1) := by decide +kernel
theorem dX2_start_0 : decode cX2_start 0 = .ok (.iconst 0, 1) := by decide +kernel
theorem dX2_start_1 : decode cX2_start 1 = .ok (.iload_n 2, 1) := by decide +kernel
theorem dX2_start_2 : decode cX2_start 2 = .ok (.iconst 2, 1) := by decide +kernel
theorem dX2_start_3 : decode cX2_start 3 = .ok (.isub, 1) := by decide +kernel
theorem dX2_start_4 : decode cX2_start 4 = .ok (.invokestatic 21, 3) := by decide +kernel
theorem dX2_start_7 : decode cX2_start 7 = .ok (.iconst 0, 1) := by decide +kernel
theorem dX2_start_8 : decode cX2_start 8 = .ok (.iload_n 3, 1) := by decide +kernel
theorem dX2_start_9 : decode cX2_start 9 = .ok (.iconst 2, 1) := by decide +kernel
theorem dX2_start_10 : decode cX2_start 10 = .ok (.isub, 1) := by decide +kernel
theorem dX2_start_11 : decode cX2_start 11 = .ok (.invokestatic 21, 3) := by decide +kernel
theorem dX2_start_14 : decode cX2_start 14 = .ok (.imul, 1) := by decide +kernel
theorem dX2_start_15 : decode cX2_start 15 = .ok (.istore 5, 2) := by decide +kernel
theorem dX2_start_17 : decode cX2_start 17 = .ok (.aload_n 1, 1) := by decide +kernel
theorem dX2_start_18 : decode cX2_start 18 = .ok (.iconst 1, 1) := by decide +kernel
theorem dX2_start_19 : decode cX2_start 19 = .ok (.invokevirtual 29, 3) := by decide +kernel
theorem dX2_start_22 : decode cX2_start 22 = .ok (.istore 6, 2) := by decide +kernel
theorem dX2_start_24 : decode cX2_start 24 = .ok (.aload_n 1, 1) := by decide +kernel
theorem dX2_start_25 : decode cX2_start 25 = .ok (.iconst 0, 1) := by decide +kernel
theorem dX2_start_26 : decode cX2_start 26 = .ok (.invokevirtual 29, 3) := by decide +kernel
theorem dX2_start_29 : decode cX2_start 29 = .ok (.istore 7, 2) := by decide +kernel
theorem dX2_start_31 : decode cX2_start 31 = .ok (.aload_n 0, 1) := by decide +kernel
theorem dX2_start_32 : decode cX2_start 32 = .ok (.getfield 12, 3) := by decide +kernel
theorem dX2_start_35 : decode cX2_start 35 = .ok (.iload_n 2, 1) := by decide +kernel
theorem dX2_start_36 : decode cX2_start 36 = .ok (.iload_n 3, 1) := by decide +kernel
theorem dX2_start_37 : decode cX2_start 37 = .ok (.imul, 1) := by decide +kernel
theorem dX2_start_38 : decode cX2_start 38 = .ok (.iload 5, 2) := by decide +kernel
theorem dX2_start_40 : decode cX2_start 40 = .ok (.isub, 1) := by decide +kernel
theorem dX2_start_41 : decode cX2_start 41 = .ok (.iconst 0, 1) := by decide +kernel
theorem dX2_start_42 : decode cX2_start 42 = .ok (.iload 6, 2) := by decide +kernel
theorem dX2_start_44 : decode cX2_start 44 = .ok (.aload_n 1, 1) := by decide +kernel
theorem dX2_start_45 : decode cX2_start 45 = .ok (.iconst 2, 1) := by decide +kernel
theorem dX2_start_46 : decode cX2_start 46 = .ok (.invokevirtual 29, 3) := by decide +kernel
theorem dX2_start_49 : decode cX2_start 49 = .ok (.iadd, 1) := by decide +kernel
theorem dX2_start_50 : decode cX2_start 50 = .ok (.iload 7, 2) := by decide +kernel
theorem dX2_start_52 : decode cX2_start 52 = .ok (.invokevirtual 33, 3) := by decide +kernel
theorem dX2_start_55 : decode cX2_start 55 = .ok (.aload_n 0, 1) := by decide +kernel
theorem dX2_start_56 : decode cX2_start 56 = .ok (.getfield 18, 3) := by decide +kernel
theorem dX2_start_59 : decode cX2_start 59 = .ok (.iload 5, 2) := by decide +kernel
theorem dX2_start_61 : decode cX2_start 61 = .ok (.iload_n 3, 1) := by decide +kernel
theorem dX2_start_62 : decode cX2_start 62 = .ok (.iconst 1, 1) := by decide +kernel
theorem dX2_start_63 : decode cX2_start 63 = .ok (.iadd, 1) := by decide +kernel
theorem dX2_start_64 : decode cX2_start 64 = .ok (.iload 6, 2) := by decide +kernel
theorem dX2_start_66 : decode cX2_start 66 = .ok (.iload 7, 2) := by decide +kernel
theorem dX2_start_68 : decode cX2_start 68 = .ok (.invokevirtual 33, 3) := by decide +kernel
theorem dX2_start_71 : decode cX2_start 71 = .ok (.aload_n 0, 1) := by decide +kernel
theorem dX2_start_72 : decode cX2_start 72 = .ok (.iconst 0, 1) := by decide +kernel
theorem dX2_start_73 : decode cX2_start 73 = .ok (.putfield 37, 3) := by decide +kernel
theorem dX2_start_76 : decode cX2_start 76 = .ok (.aload_n 0, 1) := by decide +kernel
theorem dX2_start_77 : decode cX2_start 77 = .ok (.iload 4, 2) := by decide +kernel
theorem dX2_start_79 : decode cX2_start 79 = .ok (.putfield 41, 3) := by decide +kernel
theorem dX2_start_82 : decode cX2_start 82 = .ok (.aload_n 0, 1) := by decide +kernel
theorem dX2_start_83 : decode cX2_start 83 = .ok (.iload 4, 2) := by decide +kernel
theorem dX2_start_85 : decode cX2_start 85 = .ok (.putfield 44, 3) := by decide +kernel
theorem dX2_start_88 : decode cX2_start 88 = .ok (.aload_n 0, 1) := by decide +kernel
theorem dX2_start_89 : decode cX2_start 89 = .ok (.iconst 0, 1) := by decide +kernel
theorem dX2_start_90 : decode cX2_start 90 = .ok (.putfield 47, 3) := by decide +kernel
theorem dX2_start_93 : decode cX2_start 93 = .ok (.aload_n 0, 1) := by decide +kernel
theorem dX2_start_94 : decode cX2_start 94 = .ok (.iconst 0, 1) := by decide +kernel
theorem dX2_start_95 : decode cX2_start 95 = .ok (.putfield 50, 3) := by decide +kernel
theorem dX2_start_98 : decode cX2_start 98 = .ok (.return_, 1) := by decide +kernel
theorem dX2_passMinute_0 : decode cX2_passMinute 0 = .ok (.aload_n 0, 1) := by decide +kernel
theorem dX2_passMinute_1 : decode cX2_passMinute 1 = .ok (.getfield 12, 3) := by decide +kernel
theorem dX2_passMinute_4 : decode cX2_passMinute 4 = .ok (.aload_n 1, 1) := by decide +kernel
theorem dX2_passMinute_5 : decode cX2_passMinute 5 = .ok (.iload_n 2, 1) := by decide +kernel
theorem dX2_passMinute_6 : decode cX2_passMinute 6 = .ok (.aload_n 0, 1) := by decide +kernel
theorem dX2_passMinute_7 : decode cX2_passMinute 7 = .ok (.getfield 41, 3) := by decide +kernel
theorem dX2_passMinute_10 : decode cX2_passMinute 10 = .ok (.aload_n 0, 1) := by decide +kernel
theorem dX2_passMinute_11 : decode cX2_passMinute 11 = .ok (.getfield 37, 3) := by decide +kernel
theorem dX2_passMinute_14 : decode cX2_passMinute 14 = .ok (.invokevirtual 53, 3) := by decide +kernel
theorem dX2_passMinute_17 : decode cX2_passMinute 17 = .ok (.aload_n 0, 1) := by decide +kernel
theorem dX2_passMinute_18 : decode cX2_passMinute 18 = .ok (.getfield 18, 3) := by decide +kernel
theorem dX2_passMinute_21 : decode cX2_passMinute 21 = .ok (.aload_n 1, 1) := by decide +kernel
theorem dX2_passMinute_22 : decode cX2_passMinute 22 = .ok (.iload_n 2, 1) := by decide +kernel
theorem dX2_passMinute_23 : decode cX2_passMinute 23 = .ok (.aload_n 0, 1) := by decide +kernel
theorem dX2_passMinute_24 : decode cX2_passMinute 24 = .ok (.getfield 41, 3) := by decide +kernel
theorem dX2_passMinute_27 : decode cX2_passMinute 27 = .ok (.aload_n 0, 1) := by decide +kernel
theorem dX2_passMinute_28 : decode cX2_passMinute 28 = .ok (.getfield 37, 3) := by decide +kernel
theorem dX2_passMinute_31 : decode cX2_passMinute 31 = .ok (.invokevirtual 53, 3) := by decide +kernel
theorem dX2_passMinute_34 : decode cX2_passMinute 34 = .ok (.aload_n 0, 1) := by decide +kernel
theorem dX2_passMinute_35 : decode cX2_passMinute 35 = .ok (.aload_n 0, 1) := by decide +kernel
theorem dX2_passMinute_36 : decode cX2_passMinute 36 = .ok (.getfield 12, 3) := by decide +kernel
theorem dX2_passMinute_39 : decode cX2_passMinute 39 = .ok (.getfield 57, 3) := by decide +kernel
theorem dX2_passMinute_42 : decode cX2_passMinute 42 = .ok (.aload_n 0, 1) := by decide +kernel
theorem dX2_passMinute_43 : decode cX2_passMinute 43 = .ok (.getfield 12, 3) := by decide +kernel
theorem dX2_passMinute_46 : decode cX2_passMinute 46 = .ok (.getfield 60, 3) := by decide +kernel
theorem dX2_passMinute_49 : decode cX2_passMinute 49 = .ok (.imul, 1) := by decide +kernel
theorem dX2_passMinute_50 : decode cX2_passMinute 50 = .ok (.aload_n 0, 1) := by decide +kernel
theorem dX2_passMinute_51 : decode cX2_passMinute 51 = .ok (.getfield 18, 3) := by decide +kernel
theorem dX2_passMinute_54 : decode cX2_passMinute 54 = .ok (.getfield 57, 3) := by decide +kernel
theorem dX2_passMinute_57 : decode cX2_passMinute 57 = .ok (.aload_n 0, 1) := by decide +kernel
theorem dX2_passMinute_58 : decode cX2_passMinute 58 = .ok (.getfield 18, 3) := by decide +kernel
theorem dX2_passMinute_61 : decode cX2_passMinute 61 = .ok (.getfield 60, 3) := by decide +kernel
theorem dX2_passMinute_64 : decode cX2_passMinute 64 = .ok (.imul, 1) := by decide +kernel
theorem dX2_passMinute_65 : decode cX2_passMinute 65 = .ok (.iadd, 1) := by decide +kernel
theorem dX2_passMinute_66 : decode cX2_passMinute 66 = .ok (.putfield 47, 3) := by decide +kernel
theorem dX2_passMinute_69 : decode cX2_passMinute 69 = .ok (.aload_n 0, 1) := by decide +kernel
theorem dX2_passMinute_70 : decode cX2_passMinute 70 = .ok (.dup, 1) := by decide +kernel
theorem dX2_passMinute_71 : decode cX2_passMinute 71 = .ok (.getfield 50, 3) := by decide +kernel
theorem dX2_passMinute_74 : decode cX2_passMinute 74 = .ok (.aload_n 0, 1) := by decide +kernel
theorem dX2_passMinute_75 : decode cX2_passMinute 75 = .ok (.getfield 47, 3) := by decide +kernel
theorem dX2_passMinute_78 : decode cX2_passMinute 78 = .ok (.iadd, 1) := by decide +kernel
theorem dX2_passMinute_79 : decode cX2_passMinute 79 = .ok (.putfield 50, 3) := by decide +kernel
theorem dX2_passMinute_82 : decode cX2_passMinute 82 = .ok (.aload_n 0, 1) := by decide +kernel
theorem dX2_passMinute_83 : decode cX2_passMinute 83 = .ok (.iload_n 3, 1) := by decide +kernel
theorem dX2_passMinute_84 : decode cX2_passMinute 84 = .ok (.aload_n 0, 1) := by decide +kernel
theorem dX2_passMinute_85 : decode cX2_passMinute 85 = .ok (.aload_n 1, 1) := by decide +kernel
theorem dX2_passMinute_86 : decode cX2_passMinute 86 = .ok (.invokevirtual 63, 3) := by decide +kernel
theorem dX2_passMinute_89 : decode cX2_passMinute 89 = .ok (.invokestatic 21, 3) := by decide +kernel
theorem dX2_passMinute_92 : decode cX2_passMinute 92 = .ok (.putfield 41, 3) := by decide +kernel
theorem dX2_passMinute_95 : decode cX2_passMinute 95 = .ok (.aload_n 0, 1) := by decide +kernel
theorem dX2_passMinute_96 : decode cX2_passMinute 96 = .ok (.aload_n 0, 1) := by decide +kernel
theorem dX2_passMinute_97 : decode cX2_passMinute 97 = .ok (.getfield 44, 3) := by decide +kernel
theorem dX2_passMinute_100 : decode cX2_passMinute 100 = .ok (.aload_n 0, 1) := by decide +kernel
theorem dX2_passMinute_101 : decode cX2_passMinute 101 = .ok (.getfield 41, 3) := by decide +kernel
theorem dX2_passMinute_104 : decode cX2_passMinute 104 = .ok (.invokestatic 21, 3) := by decide +kernel
theorem dX2_passMinute_107 : decode cX2_passMinute 107 = .ok (.putfield 44, 3) := by decide +kernel
theorem dX2_passMinute_110 : decode cX2_passMinute 110 = .ok (.aload_n 0, 1) := by decide +kernel
theorem dX2_passMinute_111 : decode cX2_passMinute 111 = .ok (.dup, 1) := by decide +kernel
theorem dX2_passMinute_112 : decode cX2_passMinute 112 = .ok (.getfield 37, 3) := by decide +kernel
theorem dX2_passMinute_115 : decode cX2_passMinute 115 = .ok (.iconst 1, 1) := by decide +kernel
theorem dX2_passMinute_116 : decode cX2_passMinute 116 = .ok (.iadd, 1) := by decide +kernel
theorem dX2_passMinute_117 : decode cX2_passMinute 117 = .ok (.putfield 37, 3) := by decide +kernel
theorem dX2_passMinute_120 : decode cX2_passMinute 120 = .ok (.return_, 1) := by decide +kernel
theorem dX2_pressureBehind_0 : decode cX2_pressureBehind 0 = .ok (.aload_n 0, 1) := by decide +kernel
theorem dX2_pressureBehind_1 : decode cX2_pressureBehind 1 = .ok (.getfield 47, 3) := by decide +kernel
theorem dX2_pressureBehind_4 : decode cX2_pressureBehind 4 = .ok (.aload_n 1, 1) := by decide +kernel
theorem dX2_pressureBehind_5 : decode cX2_pressureBehind 5 = .ok (.bipush 7, 2) := by decide +kernel
theorem dX2_pressureBehind_7 : decode cX2_pressureBehind 7 = .ok (.invokevirtual 29, 3) := by decide +kernel
theorem dX2_pressureBehind_10 : decode cX2_pressureBehind 10 = .ok (.isub, 1) := by decide +kernel
theorem dX2_pressureBehind_11 : decode cX2_pressureBehind 11 = .ok (.istore_n 2, 1) := by decide +kernel
theorem dX2_pressureBehind_12 : decode cX2_pressureBehind 12 = .ok (.iload_n 2, 1) := by decide +kernel
theorem dX2_pressureBehind_13 : decode cX2_pressureBehind 13 = .ok (.ifCond .le 25, 3) := by decide +kernel
theorem dX2_pressureBehind_16 : decode cX2_pressureBehind 16 = .ok (.sipush 20000, 3) := by decide +kernel
theorem dX2_pressureBehind_19 : decode cX2_pressureBehind 19 = .ok (.aload_n 0, 1) := by decide +kernel
theorem dX2_pressureBehind_20 : decode cX2_pressureBehind 20 = .ok (.getfield 41, 3) := by decide +kernel
theorem dX2_pressureBehind_23 : decode cX2_pressureBehind 23 = .ok (.iload_n 2, 1) := by decide +kernel
theorem dX2_pressureBehind_24 : decode cX2_pressureBehind 24 = .ok (.aload_n 1, 1) := by decide +kernel
theorem dX2_pressureBehind_25 : decode cX2_pressureBehind 25 = .ok (.bipush 8, 2) := by decide +kernel
theorem dX2_pressureBehind_27 : decode cX2_pressureBehind 27 = .ok (.invokevirtual 29, 3) := by decide +kernel
theorem dX2_pressureBehind_30 : decode cX2_pressureBehind 30 = .ok (.invokestatic 67, 3) := by decide +kernel
theorem dX2_pressureBehind_33 : decode cX2_pressureBehind 33 = .ok (.iadd, 1) := by decide +kernel
theorem dX2_pressureBehind_34 : decode cX2_pressureBehind 34 = .ok (.invokestatic 70, 3) := by decide +kernel
theorem dX2_pressureBehind_37 : decode cX2_pressureBehind 37 = .ok (.ireturn, 1) := by decide +kernel
theorem dX2_pressureBehind_38 : decode cX2_pressureBehind 38 = .ok (.aload_n 0, 1) := by decide +kernel
theorem dX2_pressureBehind_39 : decode cX2_pressureBehind 39 = .ok (.getfield 41, 3) := by decide +kernel
theorem dX2_pressureBehind_42 : decode cX2_pressureBehind 42 = .ok (.aload_n 1, 1) := by decide +kernel
theorem dX2_pressureBehind_43 : decode cX2_pressureBehind 43 = .ok (.bipush 9, 2) := by decide +kernel
theorem dX2_pressureBehind_45 : decode cX2_pressureBehind 45 = .ok (.invokevirtual 29, 3) := by decide +kernel
theorem dX2_pressureBehind_48 : decode cX2_pressureBehind 48 = .ok (.isub, 1) := by decide +kernel
theorem dX2_pressureBehind_49 : decode cX2_pressureBehind 49 = .ok (.ireturn, 1) := by decide +kernel
theorem dX2_otherGauge_0 : decode cX2_otherGauge 0 = .ok (.bipush 60, 2) := by decide +kernel
theorem dX2_otherGauge_2 : decode cX2_otherGauge 2 = .ok (.aload_n 0, 1) := by decide +kernel
theorem dX2_otherGauge_3 : decode cX2_otherGauge 3 = .ok (.getfield 47, 3) := by decide +kernel
theorem dX2_otherGauge_6 : decode cX2_otherGauge 6 = .ok (.imul, 1) := by decide +kernel
theorem dX2_otherGauge_7 : decode cX2_otherGauge 7 = .ok (.aload_n 0, 1) := by decide +kernel
theorem dX2_otherGauge_8 : decode cX2_otherGauge 8 = .ok (.getfield 47, 3) := by decide +kernel
theorem dX2_otherGauge_11 : decode cX2_otherGauge 11 = .ok (.aload_n 1, 1) := by decide +kernel
theorem dX2_otherGauge_12 : decode cX2_otherGauge 12 = .ok (.bipush 10, 2) := by decide +kernel
theorem dX2_otherGauge_14 : decode cX2_otherGauge 14 = .ok (.invokevirtual 29, 3) := by decide +kernel
theorem dX2_otherGauge_17 : decode cX2_otherGauge 17 = .ok (.iadd, 1) := by decide +kernel
theorem dX2_otherGauge_18 : decode cX2_otherGauge 18 = .ok (.invokestatic 67, 3) := by decide +kernel
theorem dX2_otherGauge_21 : decode cX2_otherGauge 21 = .ok (.istore_n 2, 1) := by decide +kernel
theorem dX2_otherGauge_22 : decode cX2_otherGauge 22 = .ok (.aload_n 0, 1) := by decide +kernel
theorem dX2_otherGauge_23 : decode cX2_otherGauge 23 = .ok (.getfield 41, 3) := by decide +kernel
theorem dX2_otherGauge_26 : decode cX2_otherGauge 26 = .ok (.bipush 100, 2) := by decide +kernel
theorem dX2_otherGauge_28 : decode cX2_otherGauge 28 = .ok (.iload_n 2, 1) := by decide +kernel
theorem dX2_otherGauge_29 : decode cX2_otherGauge 29 = .ok (.iadd, 1) := by decide +kernel
theorem dX2_otherGauge_30 : decode cX2_otherGauge 30 = .ok (.imul, 1) := by decide +kernel
theorem dX2_otherGauge_31 : decode cX2_otherGauge 31 = .ok (.bipush 100, 2) := by decide +kernel
theorem dX2_otherGauge_33 : decode cX2_otherGauge 33 = .ok (.idiv, 1) := by decide +kernel
theorem dX2_otherGauge_34 : decode cX2_otherGauge 34 = .ok (.ireturn, 1) := by decide +kernel
theorem dX2_vialsWithIce_0 : decode cX2_vialsWithIce 0 = .ok (.aload_n 0, 1) := by decide +kernel
theorem dX2_vialsWithIce_1 : decode cX2_vialsWithIce 1 = .ok (.getfield 12, 3) := by decide +kernel
theorem dX2_vialsWithIce_4 : decode cX2_vialsWithIce 4 = .ok (.getfield 73, 3) := by decide +kernel
theorem dX2_vialsWithIce_7 : decode cX2_vialsWithIce 7 = .ok (.ifCond .le 13, 3) := by decide +kernel
theorem dX2_vialsWithIce_10 : decode cX2_vialsWithIce 10 = .ok (.aload_n 0, 1) := by decide +kernel
theorem dX2_vialsWithIce_11 : decode cX2_vialsWithIce 11 = .ok (.getfield 12, 3) := by decide +kernel
theorem dX2_vialsWithIce_14 : decode cX2_vialsWithIce 14 = .ok (.getfield 60, 3) := by decide +kernel
theorem dX2_vialsWithIce_17 : decode cX2_vialsWithIce 17 = .ok (.goto 4, 3) := by decide +kernel
theorem dX2_vialsWithIce_20 : decode cX2_vialsWithIce 20 = .ok (.iconst 0, 1) := by decide +kernel
theorem dX2_vialsWithIce_21 : decode cX2_vialsWithIce 21 = .ok (.aload_n 0, 1) := by decide +kernel
theorem dX2_vialsWithIce_22 : decode cX2_vialsWithIce 22 = .ok (.getfield 18, 3) := by decide +kernel
theorem dX2_vialsWithIce_25 : decode cX2_vialsWithIce 25 = .ok (.getfield 73, 3) := by decide +kernel
theorem dX2_vialsWithIce_28 : decode cX2_vialsWithIce 28 = .ok (.ifCond .le 13, 3) := by decide +kernel
theorem dX2_vialsWithIce_31 : decode cX2_vialsWithIce 31 = .ok (.aload_n 0, 1) := by decide +kernel
theorem dX2_vialsWithIce_32 : decode cX2_vialsWithIce 32 = .ok (.getfield 18, 3) := by decide +kernel
theorem dX2_vialsWithIce_35 : decode cX2_vialsWithIce 35 = .ok (.getfield 60, 3) := by decide +kernel
theorem dX2_vialsWithIce_38 : decode cX2_vialsWithIce 38 = .ok (.goto 4, 3) := by decide +kernel
theorem dX2_vialsWithIce_41 : decode cX2_vialsWithIce 41 = .ok (.iconst 0, 1) := by decide +kernel
theorem dX2_vialsWithIce_42 : decode cX2_vialsWithIce 42 = .ok (.iadd, 1) := by decide +kernel
theorem dX2_vialsWithIce_43 : decode cX2_vialsWithIce 43 = .ok (.ireturn, 1) := by decide +kernel
theorem dX2_fallenVials_0 : decode cX2_fallenVials 0 = .ok (.aload_n 0, 1) := by decide +kernel
theorem dX2_fallenVials_1 : decode cX2_fallenVials 1 = .ok (.getfield 12, 3) := by decide +kernel
theorem dX2_fallenVials_4 : decode cX2_fallenVials 4 = .ok (.getfield 76, 3) := by decide +kernel
theorem dX2_fallenVials_7 : decode cX2_fallenVials 7 = .ok (.bipush (-6), 2) := by decide +kernel
theorem dX2_fallenVials_9 : decode cX2_fallenVials 9 = .ok (.if_icmp .eq 13, 3) := by decide +kernel
theorem dX2_fallenVials_12 : decode cX2_fallenVials 12 = .ok (.aload_n 0, 1) := by decide +kernel
theorem dX2_fallenVials_13 : decode cX2_fallenVials 13 = .ok (.getfield 12, 3) := by decide +kernel
theorem dX2_fallenVials_16 : decode cX2_fallenVials 16 = .ok (.getfield 60, 3) := by decide +kernel
theorem dX2_fallenVials_19 : decode cX2_fallenVials 19 = .ok (.goto 4, 3) := by decide +kernel
theorem dX2_fallenVials_22 : decode cX2_fallenVials 22 = .ok (.iconst 0, 1) := by decide +kernel
theorem dX2_fallenVials_23 : decode cX2_fallenVials 23 = .ok (.aload_n 0, 1) := by decide +kernel
theorem dX2_fallenVials_24 : decode cX2_fallenVials 24 = .ok (.getfield 18, 3) := by decide +kernel
theorem dX2_fallenVials_27 : decode cX2_fallenVials 27 = .ok (.getfield 76, 3) := by decide +kernel
theorem dX2_fallenVials_30 : decode cX2_fallenVials 30 = .ok (.bipush (-6), 2) := by decide +kernel
theorem dX2_fallenVials_32 : decode cX2_fallenVials 32 = .ok (.if_icmp .eq 13, 3) := by decide +kernel
theorem dX2_fallenVials_35 : decode cX2_fallenVials 35 = .ok (.aload_n 0, 1) := by decide +kernel
theorem dX2_fallenVials_36 : decode cX2_fallenVials 36 = .ok (.getfield 18, 3) := by decide +kernel
theorem dX2_fallenVials_39 : decode cX2_fallenVials 39 = .ok (.getfield 60, 3) := by decide +kernel
theorem dX2_fallenVials_42 : decode cX2_fallenVials 42 = .ok (.goto 4, 3) := by decide +kernel
theorem dX2_fallenVials_45 : decode cX2_fallenVials 45 = .ok (.iconst 0, 1) := by decide +kernel
theorem dX2_fallenVials_46 : decode cX2_fallenVials 46 = .ok (.iadd, 1) := by decide +kernel
theorem dX2_fallenVials_47 : decode cX2_fallenVials 47 = .ok (.ireturn, 1) := by decide +kernel
theorem dX2_firstToFall_0 : decode cX2_firstToFall 0 = .ok (.aload_n 0, 1) := by decide +kernel
theorem dX2_firstToFall_1 : decode cX2_firstToFall 1 = .ok (.getfield 18, 3) := by decide +kernel
theorem dX2_firstToFall_4 : decode cX2_firstToFall 4 = .ok (.getfield 76, 3) := by decide +kernel
theorem dX2_firstToFall_7 : decode cX2_firstToFall 7 = .ok (.bipush (-6), 2) := by decide +kernel
theorem dX2_firstToFall_9 : decode cX2_firstToFall 9 = .ok (.if_icmp .eq 36, 3) := by decide +kernel
theorem dX2_firstToFall_12 : decode cX2_firstToFall 12 = .ok (.aload_n 0, 1) := by decide +kernel
theorem dX2_firstToFall_13 : decode cX2_firstToFall 13 = .ok (.getfield 12, 3) := by decide +kernel
theorem dX2_firstToFall_16 : decode cX2_firstToFall 16 = .ok (.getfield 76, 3) := by decide +kernel
theorem dX2_firstToFall_19 : decode cX2_firstToFall 19 = .ok (.bipush (-6), 2) := by decide +kernel
theorem dX2_firstToFall_21 : decode cX2_firstToFall 21 = .ok (.if_icmp .eq 20, 3) := by decide +kernel
theorem dX2_firstToFall_24 : decode cX2_firstToFall 24 = .ok (.aload_n 0, 1) := by decide +kernel
theorem dX2_firstToFall_25 : decode cX2_firstToFall 25 = .ok (.getfield 18, 3) := by decide +kernel
theorem dX2_firstToFall_28 : decode cX2_firstToFall 28 = .ok (.getfield 76, 3) := by decide +kernel
theorem dX2_firstToFall_31 : decode cX2_firstToFall 31 = .ok (.aload_n 0, 1) := by decide +kernel
theorem dX2_firstToFall_32 : decode cX2_firstToFall 32 = .ok (.getfield 12, 3) := by decide +kernel
theorem dX2_firstToFall_35 : decode cX2_firstToFall 35 = .ok (.getfield 76, 3) := by decide +kernel
theorem dX2_firstToFall_38 : decode cX2_firstToFall 38 = .ok (.if_icmp .ge 7, 3) := by decide +kernel
theorem dX2_firstToFall_41 : decode cX2_firstToFall 41 = .ok (.iconst 1, 1) := by decide +kernel
theorem dX2_firstToFall_42 : decode cX2_firstToFall 42 = .ok (.goto 4, 3) := by decide +kernel
theorem dX2_firstToFall_45 : decode cX2_firstToFall 45 = .ok (.iconst 0, 1) := by decide +kernel
theorem dX2_firstToFall_46 : decode cX2_firstToFall 46 = .ok (.istore_n 1, 1) := by decide +kernel
theorem dX2_firstToFall_47 : decode cX2_firstToFall 47 = .ok (.iload_n 1, 1) := by decide +kernel
theorem dX2_firstToFall_48 : decode cX2_firstToFall 48 = .ok (.ifCond .eq 10, 3) := by decide +kernel
theorem dX2_firstToFall_51 : decode cX2_firstToFall 51 = .ok (.aload_n 0, 1) := by decide +kernel
theorem dX2_firstToFall_52 : decode cX2_firstToFall 52 = .ok (.getfield 18, 3) := by decide +kernel
theorem dX2_firstToFall_55 : decode cX2_firstToFall 55 = .ok (.goto 7, 3) := by decide +kernel
theorem dX2_firstToFall_58 : decode cX2_firstToFall 58 = .ok (.aload_n 0, 1) := by decide +kernel
theorem dX2_firstToFall_59 : decode cX2_firstToFall 59 = .ok (.getfield 12, 3) := by decide +kernel
theorem dX2_firstToFall_62 : decode cX2_firstToFall 62 = .ok (.areturn, 1) := by decide +kernel
theorem dX2_firstVialToFall_0 : decode cX2_firstVialToFall 0 = .ok (.aload_n 0, 1) := by decide +kernel
theorem dX2_firstVialToFall_1 : decode cX2_firstVialToFall 1 = .ok (.invokevirtual 79, 3) := by decide +kernel
theorem dX2_firstVialToFall_4 : decode cX2_firstVialToFall 4 = .ok (.astore_n 1, 1) := by decide +kernel
theorem dX2_firstVialToFall_5 : decode cX2_firstVialToFall 5 = .ok (.aload_n 1, 1) := by decide +kernel
theorem dX2_firstVialToFall_6 : decode cX2_firstVialToFall 6 = .ok (.getfield 76, 3) := by decide +kernel
theorem dX2_firstVialToFall_9 : decode cX2_firstVialToFall 9 = .ok (.bipush (-6), 2) := by decide +kernel
theorem dX2_firstVialToFall_11 : decode cX2_firstVialToFall 11 = .ok (.if_icmp .ne 8, 3) := by decide +kernel
theorem dX2_firstVialToFall_14 : decode cX2_firstVialToFall 14 = .ok (.bipush (-6), 2) := by decide +kernel
theorem dX2_firstVialToFall_16 : decode cX2_firstVialToFall 16 = .ok (.goto 7, 3) := by decide +kernel
theorem dX2_firstVialToFall_19 : decode cX2_firstVialToFall 19 = .ok (.aload_n 1, 1) := by decide +kernel
theorem dX2_firstVialToFall_20 : decode cX2_firstVialToFall 20 = .ok (.getfield 83, 3) := by decide +kernel
theorem dX2_firstVialToFall_23 : decode cX2_firstVialToFall 23 = .ok (.ireturn, 1) := by decide +kernel
theorem dX2_tell_0 : decode cX2_tell 0 = .ok (.iload_n 1, 1) := by decide +kernel
theorem dX2_tell_1 : decode cX2_tell 1 = .ok (.tableswitch 105 0 6 #[43, 48, 53, 85, 90, 95, 100], 43) := by decide +kernel
theorem dX2_tell_44 : decode cX2_tell 44 = .ok (.aload_n 0, 1) := by decide +kernel
theorem dX2_tell_45 : decode cX2_tell 45 = .ok (.getfield 37, 3) := by decide +kernel
theorem dX2_tell_48 : decode cX2_tell 48 = .ok (.ireturn, 1) := by decide +kernel
theorem dX2_tell_49 : decode cX2_tell 49 = .ok (.aload_n 0, 1) := by decide +kernel
theorem dX2_tell_50 : decode cX2_tell 50 = .ok (.getfield 41, 3) := by decide +kernel
theorem dX2_tell_53 : decode cX2_tell 53 = .ok (.ireturn, 1) := by decide +kernel
theorem dX2_tell_54 : decode cX2_tell 54 = .ok (.aload_n 0, 1) := by decide +kernel
theorem dX2_tell_55 : decode cX2_tell 55 = .ok (.getfield 12, 3) := by decide +kernel
theorem dX2_tell_58 : decode cX2_tell 58 = .ok (.getfield 73, 3) := by decide +kernel
theorem dX2_tell_61 : decode cX2_tell 61 = .ok (.aload_n 0, 1) := by decide +kernel
theorem dX2_tell_62 : decode cX2_tell 62 = .ok (.getfield 12, 3) := by decide +kernel
theorem dX2_tell_65 : decode cX2_tell 65 = .ok (.getfield 60, 3) := by decide +kernel
theorem dX2_tell_68 : decode cX2_tell 68 = .ok (.imul, 1) := by decide +kernel
theorem dX2_tell_69 : decode cX2_tell 69 = .ok (.aload_n 0, 1) := by decide +kernel
theorem dX2_tell_70 : decode cX2_tell 70 = .ok (.getfield 18, 3) := by decide +kernel
theorem dX2_tell_73 : decode cX2_tell 73 = .ok (.getfield 73, 3) := by decide +kernel
theorem dX2_tell_76 : decode cX2_tell 76 = .ok (.aload_n 0, 1) := by decide +kernel
theorem dX2_tell_77 : decode cX2_tell 77 = .ok (.getfield 18, 3) := by decide +kernel
theorem dX2_tell_80 : decode cX2_tell 80 = .ok (.getfield 60, 3) := by decide +kernel
theorem dX2_tell_83 : decode cX2_tell 83 = .ok (.imul, 1) := by decide +kernel
theorem dX2_tell_84 : decode cX2_tell 84 = .ok (.iadd, 1) := by decide +kernel
theorem dX2_tell_85 : decode cX2_tell 85 = .ok (.ireturn, 1) := by decide +kernel
theorem dX2_tell_86 : decode cX2_tell 86 = .ok (.aload_n 0, 1) := by decide +kernel
theorem dX2_tell_87 : decode cX2_tell 87 = .ok (.getfield 50, 3) := by decide +kernel
theorem dX2_tell_90 : decode cX2_tell 90 = .ok (.ireturn, 1) := by decide +kernel
theorem dX2_tell_91 : decode cX2_tell 91 = .ok (.aload_n 0, 1) := by decide +kernel
theorem dX2_tell_92 : decode cX2_tell 92 = .ok (.getfield 47, 3) := by decide +kernel
theorem dX2_tell_95 : decode cX2_tell 95 = .ok (.ireturn, 1) := by decide +kernel
theorem dX2_tell_96 : decode cX2_tell 96 = .ok (.aload_n 0, 1) := by decide +kernel
theorem dX2_tell_97 : decode cX2_tell 97 = .ok (.getfield 44, 3) := by decide +kernel
theorem dX2_tell_100 : decode cX2_tell 100 = .ok (.ireturn, 1) := by decide +kernel
theorem dX2_tell_101 : decode cX2_tell 101 = .ok (.aload_n 0, 1) := by decide +kernel
theorem dX2_tell_102 : decode cX2_tell 102 = .ok (.invokevirtual 86, 3) := by decide +kernel
theorem dX2_tell_105 : decode cX2_tell 105 = .ok (.ireturn, 1) := by decide +kernel
theorem dX2_tell_106 : decode cX2_tell 106 = .ok (.aload_n 0, 1) := by decide +kernel
theorem dX2_tell_107 : decode cX2_tell 107 = .ok (.getfield 12, 3) := by decide +kernel
theorem dX2_tell_110 : decode cX2_tell 110 = .ok (.getfield 60, 3) := by decide +kernel
theorem dX2_tell_113 : decode cX2_tell 113 = .ok (.aload_n 0, 1) := by decide +kernel
theorem dX2_tell_114 : decode cX2_tell 114 = .ok (.getfield 18, 3) := by decide +kernel
theorem dX2_tell_117 : decode cX2_tell 117 = .ok (.getfield 60, 3) := by decide +kernel
theorem dX2_tell_120 : decode cX2_tell 120 = .ok (.iadd, 1) := by decide +kernel
theorem dX2_tell_121 : decode cX2_tell 121 = .ok (.aload_n 0, 1) := by decide +kernel
theorem dX2_tell_122 : decode cX2_tell 122 = .ok (.invokevirtual 90, 3) := by decide +kernel
theorem dX2_tell_125 : decode cX2_tell 125 = .ok (.isub, 1) := by decide +kernel
theorem dX2_tell_126 : decode cX2_tell 126 = .ok (.ireturn, 1) := by decide +kernel
theorem dX3_init_0 : decode cX3_init 0 = .ok (.aload_n 0, 1) := by decide +kernel
theorem dX3_init_1 : decode cX3_init 1 = .ok (.invokespecial 1, 3) := by decide +kernel
theorem dX3_init_4 : decode cX3_init 4 = .ok (.aload_n 0, 1) := by decide +kernel
theorem dX3_init_5 : decode cX3_init 5 = .ok (.bipush 11, 2) := by decide +kernel
theorem dX3_init_7 : decode cX3_init 7 = .ok (.newarray .int, 2) := by decide +kernel
theorem dX3_init_9 : decode cX3_init 9 = .ok (.putfield 9, 3) := by decide +kernel
theorem dX3_init_12 : decode cX3_init 12 = .ok (.getstatic 13, 3) := by decide +kernel
theorem dX3_init_15 : decode cX3_init 15 = .ok (.iconst 0, 1) := by decide +kernel
theorem dX3_init_16 : decode cX3_init 16 = .ok (.aload_n 0, 1) := by decide +kernel
theorem dX3_init_17 : decode cX3_init 17 = .ok (.getfield 9, 3) := by decide +kernel
theorem dX3_init_20 : decode cX3_init 20 = .ok (.iconst 0, 1) := by decide +kernel
theorem dX3_init_21 : decode cX3_init 21 = .ok (.bipush 11, 2) := by decide +kernel
theorem dX3_init_23 : decode cX3_init 23 = .ok (.invokestatic 16, 3) := by decide +kernel
theorem dX3_init_26 : decode cX3_init 26 = .ok (.return_, 1) := by decide +kernel
theorem dX3_has_0 : decode cX3_has 0 = .ok (.iload_n 0, 1) := by decide +kernel
theorem dX3_has_1 : decode cX3_has 1 = .ok (.iconst 0, 1) := by decide +kernel
theorem dX3_has_2 : decode cX3_has 2 = .ok (.bipush 10, 2) := by decide +kernel
theorem dX3_has_4 : decode cX3_has 4 = .ok (.invokestatic 22, 3) := by decide +kernel
theorem dX3_has_7 : decode cX3_has 7 = .ok (.ireturn, 1) := by decide +kernel
theorem dX3_allows_0 : decode cX3_allows 0 = .ok (.iload_n 0, 1) := by decide +kernel
theorem dX3_allows_1 : decode cX3_allows 1 = .ok (.invokestatic 28, 3) := by decide +kernel
theorem dX3_allows_4 : decode cX3_allows 4 = .ok (.ifCond .eq 24, 3) := by decide +kernel
theorem dX3_allows_7 : decode cX3_allows 7 = .ok (.iload_n 1, 1) := by decide +kernel
theorem dX3_allows_8 : decode cX3_allows 8 = .ok (.getstatic 32, 3) := by decide +kernel
theorem dX3_allows_11 : decode cX3_allows 11 = .ok (.iload_n 0, 1) := by decide +kernel
theorem dX3_allows_12 : decode cX3_allows 12 = .ok (.iaload, 1) := by decide +kernel
theorem dX3_allows_13 : decode cX3_allows 13 = .ok (.getstatic 35, 3) := by decide +kernel
theorem dX3_allows_16 : decode cX3_allows 16 = .ok (.iload_n 0, 1) := by decide +kernel
theorem dX3_allows_17 : decode cX3_allows 17 = .ok (.iaload, 1) := by decide +kernel
theorem dX3_allows_18 : decode cX3_allows 18 = .ok (.invokestatic 22, 3) := by decide +kernel
theorem dX3_allows_21 : decode cX3_allows 21 = .ok (.ifCond .eq 7, 3) := by decide +kernel
theorem dX3_allows_24 : decode cX3_allows 24 = .ok (.iconst 1, 1) := by decide +kernel
theorem dX3_allows_25 : decode cX3_allows 25 = .ok (.goto 4, 3) := by decide +kernel
theorem dX3_allows_28 : decode cX3_allows 28 = .ok (.iconst 0, 1) := by decide +kernel
theorem dX3_allows_29 : decode cX3_allows 29 = .ok (.ireturn, 1) := by decide +kernel
theorem dX3_valueOf_0 : decode cX3_valueOf 0 = .ok (.iload_n 1, 1) := by decide +kernel
theorem dX3_valueOf_1 : decode cX3_valueOf 1 = .ok (.invokestatic 28, 3) := by decide +kernel
theorem dX3_valueOf_4 : decode cX3_valueOf 4 = .ok (.ifCond .eq 12, 3) := by decide +kernel
theorem dX3_valueOf_7 : decode cX3_valueOf 7 = .ok (.aload_n 0, 1) := by decide +kernel
theorem dX3_valueOf_8 : decode cX3_valueOf 8 = .ok (.getfield 9, 3) := by decide +kernel
theorem dX3_valueOf_11 : decode cX3_valueOf 11 = .ok (.iload_n 1, 1) := by decide +kernel
theorem dX3_valueOf_12 : decode cX3_valueOf 12 = .ok (.iaload, 1) := by decide +kernel
theorem dX3_valueOf_13 : decode cX3_valueOf 13 = .ok (.goto 4, 3) := by decide +kernel
theorem dX3_valueOf_16 : decode cX3_valueOf 16 = .ok (.iconst 0, 1) := by decide +kernel
theorem dX3_valueOf_17 : decode cX3_valueOf 17 = .ok (.ireturn, 1) := by decide +kernel
theorem dX3_change_0 : decode cX3_change 0 = .ok (.aload_n 0, 1) := by decide +kernel
theorem dX3_change_1 : decode cX3_change 1 = .ok (.iload_n 1, 1) := by decide +kernel
theorem dX3_change_2 : decode cX3_change 2 = .ok (.invokevirtual 38, 3) := by decide +kernel
theorem dX3_change_5 : decode cX3_change 5 = .ok (.istore_n 3, 1) := by decide +kernel
theorem dX3_change_6 : decode cX3_change 6 = .ok (.iload_n 1, 1) := by decide +kernel
theorem dX3_change_7 : decode cX3_change 7 = .ok (.iload_n 2, 1) := by decide +kernel
theorem dX3_change_8 : decode cX3_change 8 = .ok (.invokestatic 42, 3) := by decide +kernel
theorem dX3_change_11 : decode cX3_change 11 = .ok (.ifCond .eq 10, 3) := by decide +kernel
theorem dX3_change_14 : decode cX3_change 14 = .ok (.aload_n 0, 1) := by decide +kernel
theorem dX3_change_15 : decode cX3_change 15 = .ok (.getfield 9, 3) := by decide +kernel
theorem dX3_change_18 : decode cX3_change 18 = .ok (.iload_n 1, 1) := by decide +kernel
theorem dX3_change_19 : decode cX3_change 19 = .ok (.iload_n 2, 1) := by decide +kernel
theorem dX3_change_20 : decode cX3_change 20 = .ok (.iastore, 1) := by decide +kernel
theorem dX3_change_21 : decode cX3_change 21 = .ok (.iload_n 3, 1) := by decide +kernel
theorem dX3_change_22 : decode cX3_change 22 = .ok (.ireturn, 1) := by decide +kernel
theorem dX3_bars_0 : decode cX3_bars 0 = .ok (.aload_n 0, 1) := by decide +kernel
theorem dX3_bars_1 : decode cX3_bars 1 = .ok (.getfield 9, 3) := by decide +kernel
theorem dX3_bars_4 : decode cX3_bars 4 = .ok (.iconst 4, 1) := by decide +kernel
theorem dX3_bars_5 : decode cX3_bars 5 = .ok (.iaload, 1) := by decide +kernel
theorem dX3_bars_6 : decode cX3_bars 6 = .ok (.aload_n 0, 1) := by decide +kernel
theorem dX3_bars_7 : decode cX3_bars 7 = .ok (.getfield 9, 3) := by decide +kernel
theorem dX3_bars_10 : decode cX3_bars 10 = .ok (.iconst 5, 1) := by decide +kernel
theorem dX3_bars_11 : decode cX3_bars 11 = .ok (.iaload, 1) := by decide +kernel
theorem dX3_bars_12 : decode cX3_bars 12 = .ok (.iload_n 1, 1) := by decide +kernel
theorem dX3_bars_13 : decode cX3_bars 13 = .ok (.imul, 1) := by decide +kernel
theorem dX3_bars_14 : decode cX3_bars 14 = .ok (.iadd, 1) := by decide +kernel
theorem dX3_bars_15 : decode cX3_bars 15 = .ok (.ireturn, 1) := by decide +kernel
theorem dX4_init_0 : decode cX4_init 0 = .ok (.aload_n 0, 1) := by decide +kernel
theorem dX4_init_1 : decode cX4_init 1 = .ok (.invokespecial 1, 3) := by decide +kernel
theorem dX4_init_4 : decode cX4_init 4 = .ok (.aload_n 0, 1) := by decide +kernel
theorem dX4_init_5 : decode cX4_init 5 = .ok (.new 7, 3) := by decide +kernel
theorem dX4_init_8 : decode cX4_init 8 = .ok (.dup, 1) := by decide +kernel
theorem dX4_init_9 : decode cX4_init 9 = .ok (.invokespecial 9, 3) := by decide +kernel
theorem dX4_init_12 : decode cX4_init 12 = .ok (.putfield 10, 3) := by decide +kernel
theorem dX4_init_15 : decode cX4_init 15 = .ok (.aload_n 0, 1) := by decide +kernel
theorem dX4_init_16 : decode cX4_init 16 = .ok (.new 16, 3) := by decide +kernel
theorem dX4_init_19 : decode cX4_init 19 = .ok (.dup, 1) := by decide +kernel
theorem dX4_init_20 : decode cX4_init 20 = .ok (.invokespecial 18, 3) := by decide +kernel
theorem dX4_init_23 : decode cX4_init 23 = .ok (.putfield 19, 3) := by decide +kernel
theorem dX4_init_26 : decode cX4_init 26 = .ok (.aload_n 0, 1) := by decide +kernel
theorem dX4_init_27 : decode cX4_init 27 = .ok (.new 16, 3) := by decide +kernel
theorem dX4_init_30 : decode cX4_init 30 = .ok (.dup, 1) := by decide +kernel
theorem dX4_init_31 : decode cX4_init 31 = .ok (.invokespecial 18, 3) := by decide +kernel
theorem dX4_init_34 : decode cX4_init 34 = .ok (.putfield 23, 3) := by decide +kernel
theorem dX4_init_37 : decode cX4_init 37 = .ok (.aload_n 0, 1) := by decide +kernel
theorem dX4_init_38 : decode cX4_init 38 = .ok (.new 26, 3) := by decide +kernel
theorem dX4_init_41 : decode cX4_init 41 = .ok (.dup, 1) := by decide +kernel
theorem dX4_init_42 : decode cX4_init 42 = .ok (.invokespecial 28, 3) := by decide +kernel
theorem dX4_init_45 : decode cX4_init 45 = .ok (.putfield 29, 3) := by decide +kernel
theorem dX4_init_48 : decode cX4_init 48 = .ok (.aload_n 0, 1) := by decide +kernel
theorem dX4_init_49 : decode cX4_init 49 = .ok (.iconst 2, 1) := by decide +kernel
theorem dX4_init_50 : decode cX4_init 50 = .ok (.putfield 33, 3) := by decide +kernel
theorem dX4_init_53 : decode cX4_init 53 = .ok (.aload_n 0, 1) := by decide +kernel
theorem dX4_init_54 : decode cX4_init 54 = .ok (.iconst 3, 1) := by decide +kernel
theorem dX4_init_55 : decode cX4_init 55 = .ok (.putfield 37, 3) := by decide +kernel
theorem dX4_init_58 : decode cX4_init 58 = .ok (.aload_n 0, 1) := by decide +kernel
theorem dX4_init_59 : decode cX4_init 59 = .ok (.sipush (-400), 3) := by decide +kernel
theorem dX4_init_62 : decode cX4_init 62 = .ok (.putfield 40, 3) := by decide +kernel
theorem dX4_init_65 : decode cX4_init 65 = .ok (.aload_n 0, 1) := by decide +kernel
theorem dX4_init_66 : decode cX4_init 66 = .ok (.bipush 100, 2) := by decide +kernel
theorem dX4_init_68 : decode cX4_init 68 = .ok (.putfield 43, 3) := by decide +kernel
theorem dX4_init_71 : decode cX4_init 71 = .ok (.aload_n 0, 1) := by decide +kernel
theorem dX4_init_72 : decode cX4_init 72 = .ok (.iconst 0, 1) := by decide +kernel
theorem dX4_init_73 : decode cX4_init 73 = .ok (.putfield 46, 3) := by decide +kernel
theorem dX4_init_76 : decode cX4_init 76 = .ok (.aload_n 0, 1) := by decide +kernel
theorem dX4_init_77 : decode cX4_init 77 = .ok (.iconst 0, 1) := by decide +kernel
theorem dX4_init_78 : decode cX4_init 78 = .ok (.putfield 50, 3) := by decide +kernel
theorem dX4_init_81 : decode cX4_init 81 = .ok (.return_, 1) := by decide +kernel
theorem dX4_shelf_0 : decode cX4_shelf 0 = .ok (.iload_n 1, 1) := by decide +kernel
theorem dX4_shelf_1 : decode cX4_shelf 1 = .ok (.iconst 1, 1) := by decide +kernel
theorem dX4_shelf_2 : decode cX4_shelf 2 = .ok (.iconst 4, 1) := by decide +kernel
theorem dX4_shelf_3 : decode cX4_shelf 3 = .ok (.invokestatic 53, 3) := by decide +kernel
theorem dX4_shelf_6 : decode cX4_shelf 6 = .ok (.ifCond .eq 13, 3) := by decide +kernel
theorem dX4_shelf_9 : decode cX4_shelf 9 = .ok (.iload_n 2, 1) := by decide +kernel
theorem dX4_shelf_10 : decode cX4_shelf 10 = .ok (.iconst 1, 1) := by decide +kernel
theorem dX4_shelf_11 : decode cX4_shelf 11 = .ok (.bipush 6, 2) := by decide +kernel
theorem dX4_shelf_13 : decode cX4_shelf 13 = .ok (.invokestatic 53, 3) := by decide +kernel
theorem dX4_shelf_16 : decode cX4_shelf 16 = .ok (.ifCond .ne 6, 3) := by decide +kernel
theorem dX4_shelf_19 : decode cX4_shelf 19 = .ok (.bipush (-2), 2) := by decide +kernel
theorem dX4_shelf_21 : decode cX4_shelf 21 = .ok (.ireturn, 1) := by decide +kernel
theorem dX4_shelf_22 : decode cX4_shelf 22 = .ok (.aload_n 0, 1) := by decide +kernel
theorem dX4_shelf_23 : decode cX4_shelf 23 = .ok (.getfield 46, 3) := by decide +kernel
theorem dX4_shelf_26 : decode cX4_shelf 26 = .ok (.ifCond .eq 6, 3) := by decide +kernel
theorem dX4_shelf_29 : decode cX4_shelf 29 = .ok (.bipush (-3), 2) := by decide +kernel
theorem dX4_shelf_31 : decode cX4_shelf 31 = .ok (.ireturn, 1) := by decide +kernel
theorem dX4_shelf_32 : decode cX4_shelf 32 = .ok (.aload_n 0, 1) := by decide +kernel
theorem dX4_shelf_33 : decode cX4_shelf 33 = .ok (.iload_n 1, 1) := by decide +kernel
theorem dX4_shelf_34 : decode cX4_shelf 34 = .ok (.putfield 33, 3) := by decide +kernel
theorem dX4_shelf_37 : decode cX4_shelf 37 = .ok (.aload_n 0, 1) := by decide +kernel
theorem dX4_shelf_38 : decode cX4_shelf 38 = .ok (.iload_n 2, 1) := by decide +kernel
theorem dX4_shelf_39 : decode cX4_shelf 39 = .ok (.putfield 37, 3) := by decide +kernel
theorem dX4_shelf_42 : decode cX4_shelf 42 = .ok (.aload_n 0, 1) := by decide +kernel
theorem dX4_shelf_43 : decode cX4_shelf 43 = .ok (.invokevirtual 57, 3) := by decide +kernel
theorem dX4_shelf_46 : decode cX4_shelf 46 = .ok (.ireturn, 1) := by decide +kernel
theorem dX4_rule_0 : decode cX4_rule 0 = .ok (.iload_n 1, 1) := by decide +kernel
theorem dX4_rule_1 : decode cX4_rule 1 = .ok (.invokestatic 61, 3) := by decide +kernel
theorem dX4_rule_4 : decode cX4_rule 4 = .ok (.ifCond .ne 7, 3) := by decide +kernel
theorem dX4_rule_7 : decode cX4_rule 7 = .ok (.sipush (-10001), 3) := by decide +kernel
theorem dX4_rule_10 : decode cX4_rule 10 = .ok (.ireturn, 1) := by decide +kernel
theorem dX4_rule_11 : decode cX4_rule 11 = .ok (.iload_n 1, 1) := by decide +kernel
theorem dX4_rule_12 : decode cX4_rule 12 = .ok (.iload_n 2, 1) := by decide +kernel
theorem dX4_rule_13 : decode cX4_rule 13 = .ok (.invokestatic 65, 3) := by decide +kernel
theorem dX4_rule_16 : decode cX4_rule 16 = .ok (.ifCond .ne 7, 3) := by decide +kernel
theorem dX4_rule_19 : decode cX4_rule 19 = .ok (.sipush (-10002), 3) := by decide +kernel
theorem dX4_rule_22 : decode cX4_rule 22 = .ok (.ireturn, 1) := by decide +kernel
theorem dX4_rule_23 : decode cX4_rule 23 = .ok (.aload_n 0, 1) := by decide +kernel
theorem dX4_rule_24 : decode cX4_rule 24 = .ok (.getfield 46, 3) := by decide +kernel
theorem dX4_rule_27 : decode cX4_rule 27 = .ok (.ifCond .eq 7, 3) := by decide +kernel
theorem dX4_rule_30 : decode cX4_rule 30 = .ok (.sipush (-10003), 3) := by decide +kernel
theorem dX4_rule_33 : decode cX4_rule 33 = .ok (.ireturn, 1) := by decide +kernel
theorem dX4_rule_34 : decode cX4_rule 34 = .ok (.aload_n 0, 1) := by decide +kernel
theorem dX4_rule_35 : decode cX4_rule 35 = .ok (.getfield 10, 3) := by decide +kernel
theorem dX4_rule_38 : decode cX4_rule 38 = .ok (.iload_n 1, 1) := by decide +kernel
theorem dX4_rule_39 : decode cX4_rule 39 = .ok (.iload_n 2, 1) := by decide +kernel
theorem dX4_rule_40 : decode cX4_rule 40 = .ok (.invokevirtual 69, 3) := by decide +kernel
theorem dX4_rule_43 : decode cX4_rule 43 = .ok (.ireturn, 1) := by decide +kernel
theorem dX4_vapour_0 : decode cX4_vapour 0 = .ok (.iload_n 1, 1) := by decide +kernel
theorem dX4_vapour_1 : decode cX4_vapour 1 = .ok (.sipush (-600), 3) := by decide +kernel
theorem dX4_vapour_4 : decode cX4_vapour 4 = .ok (.iconst 0, 1) := by decide +kernel
theorem dX4_vapour_5 : decode cX4_vapour 5 = .ok (.invokestatic 53, 3) := by decide +kernel
theorem dX4_vapour_8 : decode cX4_vapour 8 = .ok (.ifCond .eq 10, 3) := by decide +kernel
theorem dX4_vapour_11 : decode cX4_vapour 11 = .ok (.iload_n 1, 1) := by decide +kernel
theorem dX4_vapour_12 : decode cX4_vapour 12 = .ok (.invokestatic 73, 3) := by decide +kernel
theorem dX4_vapour_15 : decode cX4_vapour 15 = .ok (.goto 5, 3) := by decide +kernel
theorem dX4_vapour_18 : decode cX4_vapour 18 = .ok (.bipush (-2), 2) := by decide +kernel
theorem dX4_vapour_20 : decode cX4_vapour 20 = .ok (.ireturn, 1) := by decide +kernel
theorem dX4_steam_0 : decode cX4_steam 0 = .ok (.iload_n 1, 1) := by decide +kernel
theorem dX4_steam_1 : decode cX4_steam 1 = .ok (.sipush (-600), 3) := by decide +kernel
theorem dX4_steam_4 : decode cX4_steam 4 = .ok (.iconst 0, 1) := by decide +kernel
theorem dX4_steam_5 : decode cX4_steam 5 = .ok (.invokestatic 53, 3) := by decide +kernel
theorem dX4_steam_8 : decode cX4_steam 8 = .ok (.ifCond .eq 24, 3) := by decide +kernel
theorem dX4_steam_11 : decode cX4_steam 11 = .ok (.iload_n 2, 1) := by decide +kernel
theorem dX4_steam_12 : decode cX4_steam 12 = .ok (.iconst 0, 1) := by decide +kernel
theorem dX4_steam_13 : decode cX4_steam 13 = .ok (.bipush 100, 2) := by decide +kernel
theorem dX4_steam_15 : decode cX4_steam 15 = .ok (.invokestatic 53, 3) := by decide +kernel
theorem dX4_steam_18 : decode cX4_steam 18 = .ok (.ifCond .eq 14, 3) := by decide +kernel
theorem dX4_steam_21 : decode cX4_steam 21 = .ok (.iload_n 3, 1) := by decide +kernel
theorem dX4_steam_22 : decode cX4_steam 22 = .ok (.iconst 0, 1) := by decide +kernel
theorem dX4_steam_23 : decode cX4_steam 23 = .ok (.sipush 20000, 3) := by decide +kernel
theorem dX4_steam_26 : decode cX4_steam 26 = .ok (.invokestatic 53, 3) := by decide +kernel
theorem dX4_steam_29 : decode cX4_steam 29 = .ok (.ifCond .ne 6, 3) := by decide +kernel
theorem dX4_steam_32 : decode cX4_steam 32 = .ok (.bipush (-2), 2) := by decide +kernel
theorem dX4_steam_34 : decode cX4_steam 34 = .ok (.ireturn, 1) := by decide +kernel
theorem dX4_steam_35 : decode cX4_steam 35 = .ok (.iload_n 1, 1) := by decide +kernel
theorem dX4_steam_36 : decode cX4_steam 36 = .ok (.aload_n 0, 1) := by decide +kernel
theorem dX4_steam_37 : decode cX4_steam 37 = .ok (.getfield 10, 3) := by decide +kernel
theorem dX4_steam_40 : decode cX4_steam 40 = .ok (.iload_n 2, 1) := by decide +kernel
theorem dX4_steam_41 : decode cX4_steam 41 = .ok (.invokevirtual 77, 3) := by decide +kernel
theorem dX4_steam_44 : decode cX4_steam 44 = .ok (.iload_n 3, 1) := by decide +kernel
theorem dX4_steam_45 : decode cX4_steam 45 = .ok (.invokestatic 80, 3) := by decide +kernel
theorem dX4_steam_48 : decode cX4_steam 48 = .ok (.ireturn, 1) := by decide +kernel
theorem dX4_rim_0 : decode cX4_rim 0 = .ok (.iload_n 1, 1) := by decide +kernel
theorem dX4_rim_1 : decode cX4_rim 1 = .ok (.iconst 0, 1) := by decide +kernel
theorem dX4_rim_2 : decode cX4_rim 2 = .ok (.aload_n 0, 1) := by decide +kernel
theorem dX4_rim_3 : decode cX4_rim 3 = .ok (.invokevirtual 57, 3) := by decide +kernel
theorem dX4_rim_6 : decode cX4_rim 6 = .ok (.iconst 1, 1) := by decide +kernel
theorem dX4_rim_7 : decode cX4_rim 7 = .ok (.isub, 1) := by decide +kernel
theorem dX4_rim_8 : decode cX4_rim 8 = .ok (.invokestatic 53, 3) := by decide +kernel
theorem dX4_rim_11 : decode cX4_rim 11 = .ok (.ifCond .ne 5, 3) := by decide +kernel
theorem dX4_rim_14 : decode cX4_rim 14 = .ok (.iconst (-1), 1) := by decide +kernel
theorem dX4_rim_15 : decode cX4_rim 15 = .ok (.ireturn, 1) := by decide +kernel
theorem dX4_rim_16 : decode cX4_rim 16 = .ok (.aload_n 0, 1) := by decide +kernel
theorem dX4_rim_17 : decode cX4_rim 17 = .ok (.iload_n 1, 1) := by decide +kernel
theorem dX4_rim_18 : decode cX4_rim 18 = .ok (.invokevirtual 84, 3) := by decide +kernel
theorem dX4_rim_21 : decode cX4_rim 21 = .ok (.ifCond .eq 7, 3) := by decide +kernel
theorem dX4_rim_24 : decode cX4_rim 24 = .ok (.iconst 1, 1) := by decide +kernel
theorem dX4_rim_25 : decode cX4_rim 25 = .ok (.goto 4, 3) := by decide +kernel
theorem dX4_rim_28 : decode cX4_rim 28 = .ok (.iconst 0, 1) := by decide +kernel
theorem dX4_rim_29 : decode cX4_rim 29 = .ok (.ireturn, 1) := by decide +kernel
theorem dX4_load_0 : decode cX4_load 0 = .ok (.aload_n 0, 1) := by decide +kernel
theorem dX4_load_1 : decode cX4_load 1 = .ok (.getfield 46, 3) := by decide +kernel
theorem dX4_load_4 : decode cX4_load 4 = .ok (.ifCond .eq 6, 3) := by decide +kernel
theorem dX4_load_7 : decode cX4_load 7 = .ok (.bipush (-3), 2) := by decide +kernel
theorem dX4_load_9 : decode cX4_load 9 = .ok (.ireturn, 1) := by decide +kernel
theorem dX4_load_10 : decode cX4_load 10 = .ok (.aload_n 0, 1) := by decide +kernel
theorem dX4_load_11 : decode cX4_load 11 = .ok (.getfield 19, 3) := by decide +kernel
theorem dX4_load_14 : decode cX4_load 14 = .ok (.aload_n 0, 1) := by decide +kernel
theorem dX4_load_15 : decode cX4_load 15 = .ok (.getfield 10, 3) := by decide +kernel
theorem dX4_load_18 : decode cX4_load 18 = .ok (.aload_n 0, 1) := by decide +kernel
theorem dX4_load_19 : decode cX4_load 19 = .ok (.getfield 33, 3) := by decide +kernel
theorem dX4_load_22 : decode cX4_load 22 = .ok (.aload_n 0, 1) := by decide +kernel
theorem dX4_load_23 : decode cX4_load 23 = .ok (.getfield 37, 3) := by decide +kernel
theorem dX4_load_26 : decode cX4_load 26 = .ok (.aload_n 0, 1) := by decide +kernel
theorem dX4_load_27 : decode cX4_load 27 = .ok (.getfield 43, 3) := by decide +kernel
theorem dX4_load_30 : decode cX4_load 30 = .ok (.invokevirtual 87, 3) := by decide +kernel
theorem dX4_load_33 : decode cX4_load 33 = .ok (.aload_n 0, 1) := by decide +kernel
theorem dX4_load_34 : decode cX4_load 34 = .ok (.getfield 29, 3) := by decide +kernel
theorem dX4_load_37 : decode cX4_load 37 = .ok (.aload_n 0, 1) := by decide +kernel
theorem dX4_load_38 : decode cX4_load 38 = .ok (.getfield 19, 3) := by decide +kernel
theorem dX4_load_41 : decode cX4_load 41 = .ok (.aload_n 0, 1) := by decide +kernel
theorem dX4_load_42 : decode cX4_load 42 = .ok (.getfield 10, 3) := by decide +kernel
theorem dX4_load_45 : decode cX4_load 45 = .ok (.invokevirtual 91, 3) := by decide +kernel
theorem dX4_load_48 : decode cX4_load 48 = .ok (.aload_n 0, 1) := by decide +kernel
theorem dX4_load_49 : decode cX4_load 49 = .ok (.iconst 1, 1) := by decide +kernel
theorem dX4_load_50 : decode cX4_load 50 = .ok (.putfield 46, 3) := by decide +kernel
theorem dX4_load_53 : decode cX4_load 53 = .ok (.aload_n 0, 1) := by decide +kernel
theorem dX4_load_54 : decode cX4_load 54 = .ok (.invokevirtual 57, 3) := by decide +kernel
theorem dX4_load_57 : decode cX4_load 57 = .ok (.ireturn, 1) := by decide +kernel
theorem dX4_warm_0 : decode cX4_warm 0 = .ok (.iload_n 1, 1) := by decide +kernel
theorem dX4_warm_1 : decode cX4_warm 1 = .ok (.sipush (-600), 3) := by decide +kernel
theorem dX4_warm_4 : decode cX4_warm 4 = .ok (.sipush 400, 3) := by decide +kernel
theorem dX4_warm_7 : decode cX4_warm 7 = .ok (.invokestatic 53, 3) := by decide +kernel
theorem dX4_warm_10 : decode cX4_warm 10 = .ok (.ifCond .ne 7, 3) := by decide +kernel
theorem dX4_warm_13 : decode cX4_warm 13 = .ok (.sipush (-10002), 3) := by decide +kernel
theorem dX4_warm_16 : decode cX4_warm 16 = .ok (.ireturn, 1) := by decide +kernel
theorem dX4_warm_17 : decode cX4_warm 17 = .ok (.aload_n 0, 1) := by decide +kernel
theorem dX4_warm_18 : decode cX4_warm 18 = .ok (.getfield 40, 3) := by decide +kernel
theorem dX4_warm_21 : decode cX4_warm 21 = .ok (.istore_n 2, 1) := by decide +kernel
theorem dX4_warm_22 : decode cX4_warm 22 = .ok (.aload_n 0, 1) := by decide +kernel
theorem dX4_warm_23 : decode cX4_warm 23 = .ok (.iload_n 1, 1) := by decide +kernel
theorem dX4_warm_24 : decode cX4_warm 24 = .ok (.putfield 40, 3) := by decide +kernel
theorem dX4_warm_27 : decode cX4_warm 27 = .ok (.iload_n 2, 1) := by decide +kernel
theorem dX4_warm_28 : decode cX4_warm 28 = .ok (.ireturn, 1) := by decide +kernel
theorem dX4_set_0 : decode cX4_set 0 = .ok (.iload_n 1, 1) := by decide +kernel
theorem dX4_set_1 : decode cX4_set 1 = .ok (.iconst 0, 1) := by decide +kernel
theorem dX4_set_2 : decode cX4_set 2 = .ok (.sipush 5000, 3) := by decide +kernel
theorem dX4_set_5 : decode cX4_set 5 = .ok (.invokestatic 53, 3) := by decide +kernel
theorem dX4_set_8 : decode cX4_set 8 = .ok (.ifCond .ne 6, 3) := by decide +kernel
theorem dX4_set_11 : decode cX4_set 11 = .ok (.bipush (-2), 2) := by decide +kernel
theorem dX4_set_13 : decode cX4_set 13 = .ok (.ireturn, 1) := by decide +kernel
theorem dX4_set_14 : decode cX4_set 14 = .ok (.aload_n 0, 1) := by decide +kernel
theorem dX4_set_15 : decode cX4_set 15 = .ok (.getfield 43, 3) := by decide +kernel
theorem dX4_set_18 : decode cX4_set 18 = .ok (.istore_n 2, 1) := by decide +kernel
theorem dX4_set_19 : decode cX4_set 19 = .ok (.aload_n 0, 1) := by decide +kernel
theorem dX4_set_20 : decode cX4_set 20 = .ok (.iload_n 1, 1) := by decide +kernel
theorem dX4_set_21 : decode cX4_set 21 = .ok (.putfield 43, 3) := by decide +kernel
theorem dX4_set_24 : decode cX4_set 24 = .ok (.iload_n 2, 1) := by decide +kernel
theorem dX4_set_25 : decode cX4_set 25 = .ok (.ireturn, 1) := by decide +kernel
theorem dX4_run_0 : decode cX4_run 0 = .ok (.iload_n 1, 1) := by decide +kernel
theorem dX4_run_1 : decode cX4_run 1 = .ok (.iconst 1, 1) := by decide +kernel
theorem dX4_run_2 : decode cX4_run 2 = .ok (.sipush 500, 3) := by decide +kernel
theorem dX4_run_5 : decode cX4_run 5 = .ok (.invokestatic 53, 3) := by decide +kernel
theorem dX4_run_8 : decode cX4_run 8 = .ok (.ifCond .ne 6, 3) := by decide +kernel
theorem dX4_run_11 : decode cX4_run 11 = .ok (.bipush (-2), 2) := by decide +kernel
theorem dX4_run_13 : decode cX4_run 13 = .ok (.ireturn, 1) := by decide +kernel
theorem dX4_run_14 : decode cX4_run 14 = .ok (.aload_n 0, 1) := by decide +kernel
theorem dX4_run_15 : decode cX4_run 15 = .ok (.getfield 46, 3) := by decide +kernel
theorem dX4_run_18 : decode cX4_run 18 = .ok (.ifCond .eq 18, 3) := by decide +kernel
theorem dX4_run_21 : decode cX4_run 21 = .ok (.aload_n 0, 1) := by decide +kernel
theorem dX4_run_22 : decode cX4_run 22 = .ok (.getfield 19, 3) := by decide +kernel
theorem dX4_run_25 : decode cX4_run 25 = .ok (.getfield 95, 3) := by decide +kernel
theorem dX4_run_28 : decode cX4_run 28 = .ok (.iload_n 1, 1) := by decide +kernel
theorem dX4_run_29 : decode cX4_run 29 = .ok (.iadd, 1) := by decide +kernel
theorem dX4_run_30 : decode cX4_run 30 = .ok (.sipush 2000, 3) := by decide +kernel
theorem dX4_run_33 : decode cX4_run 33 = .ok (.if_icmp .le 6, 3) := by decide +kernel
theorem dX4_run_36 : decode cX4_run 36 = .ok (.bipush (-3), 2) := by decide +kernel
theorem dX4_run_38 : decode cX4_run 38 = .ok (.ireturn, 1) := by decide +kernel
theorem dX4_run_39 : decode cX4_run 39 = .ok (.iconst 0, 1) := by decide +kernel
theorem dX4_run_40 : decode cX4_run 40 = .ok (.istore_n 2, 1) := by decide +kernel
theorem dX4_run_41 : decode cX4_run 41 = .ok (.iload_n 2, 1) := by decide +kernel
theorem dX4_run_42 : decode cX4_run 42 = .ok (.iload_n 1, 1) := by decide +kernel
theorem dX4_run_43 : decode cX4_run 43 = .ok (.if_icmp .ge 43, 3) := by decide +kernel
theorem dX4_run_46 : decode cX4_run 46 = .ok (.aload_n 0, 1) := by decide +kernel
theorem dX4_run_47 : decode cX4_run 47 = .ok (.getfield 19, 3) := by decide +kernel
theorem dX4_run_50 : decode cX4_run 50 = .ok (.aload_n 0, 1) := by decide +kernel
theorem dX4_run_51 : decode cX4_run 51 = .ok (.getfield 10, 3) := by decide +kernel
theorem dX4_run_54 : decode cX4_run 54 = .ok (.aload_n 0, 1) := by decide +kernel
theorem dX4_run_55 : decode cX4_run 55 = .ok (.getfield 40, 3) := by decide +kernel
theorem dX4_run_58 : decode cX4_run 58 = .ok (.aload_n 0, 1) := by decide +kernel
theorem dX4_run_59 : decode cX4_run 59 = .ok (.getfield 43, 3) := by decide +kernel
theorem dX4_run_62 : decode cX4_run 62 = .ok (.invokevirtual 98, 3) := by decide +kernel
theorem dX4_run_65 : decode cX4_run 65 = .ok (.aload_n 0, 1) := by decide +kernel
theorem dX4_run_66 : decode cX4_run 66 = .ok (.getfield 29, 3) := by decide +kernel
theorem dX4_run_69 : decode cX4_run 69 = .ok (.aload_n 0, 1) := by decide +kernel
theorem dX4_run_70 : decode cX4_run 70 = .ok (.getfield 19, 3) := by decide +kernel
theorem dX4_run_73 : decode cX4_run 73 = .ok (.aload_n 0, 1) := by decide +kernel
theorem dX4_run_74 : decode cX4_run 74 = .ok (.getfield 10, 3) := by decide +kernel
theorem dX4_run_77 : decode cX4_run 77 = .ok (.invokevirtual 91, 3) := by decide +kernel
theorem dX4_run_80 : decode cX4_run 80 = .ok (.iinc 2 1, 3) := by decide +kernel
theorem dX4_run_83 : decode cX4_run 83 = .ok (.goto (-42), 3) := by decide +kernel
theorem dX4_run_86 : decode cX4_run 86 = .ok (.aload_n 0, 1) := by decide +kernel
theorem dX4_run_87 : decode cX4_run 87 = .ok (.getfield 19, 3) := by decide +kernel
theorem dX4_run_90 : decode cX4_run 90 = .ok (.getfield 95, 3) := by decide +kernel
theorem dX4_run_93 : decode cX4_run 93 = .ok (.ireturn, 1) := by decide +kernel
theorem dX4_unload_0 : decode cX4_unload 0 = .ok (.aload_n 0, 1) := by decide +kernel
theorem dX4_unload_1 : decode cX4_unload 1 = .ok (.getfield 46, 3) := by decide +kernel
theorem dX4_unload_4 : decode cX4_unload 4 = .ok (.ifCond .ne 6, 3) := by decide +kernel
theorem dX4_unload_7 : decode cX4_unload 7 = .ok (.bipush (-3), 2) := by decide +kernel
theorem dX4_unload_9 : decode cX4_unload 9 = .ok (.ireturn, 1) := by decide +kernel
theorem dX4_unload_10 : decode cX4_unload 10 = .ok (.aload_n 0, 1) := by decide +kernel
theorem dX4_unload_11 : decode cX4_unload 11 = .ok (.iconst 0, 1) := by decide +kernel
theorem dX4_unload_12 : decode cX4_unload 12 = .ok (.putfield 46, 3) := by decide +kernel
theorem dX4_unload_15 : decode cX4_unload 15 = .ok (.aload_n 0, 1) := by decide +kernel
theorem dX4_unload_16 : decode cX4_unload 16 = .ok (.getfield 19, 3) := by decide +kernel
theorem dX4_unload_19 : decode cX4_unload 19 = .ok (.invokevirtual 102, 3) := by decide +kernel
theorem dX4_unload_22 : decode cX4_unload 22 = .ok (.ireturn, 1) := by decide +kernel
theorem dX4_vial_0 : decode cX4_vial 0 = .ok (.aload_n 0, 1) := by decide +kernel
theorem dX4_vial_1 : decode cX4_vial 1 = .ok (.getfield 46, 3) := by decide +kernel
theorem dX4_vial_4 : decode cX4_vial 4 = .ok (.ifCond .ne 7, 3) := by decide +kernel
theorem dX4_vial_7 : decode cX4_vial 7 = .ok (.sipush (-10003), 3) := by decide +kernel
theorem dX4_vial_10 : decode cX4_vial 10 = .ok (.ireturn, 1) := by decide +kernel
theorem dX4_vial_11 : decode cX4_vial 11 = .ok (.iload_n 1, 1) := by decide +kernel
theorem dX4_vial_12 : decode cX4_vial 12 = .ok (.iconst 0, 1) := by decide +kernel
theorem dX4_vial_13 : decode cX4_vial 13 = .ok (.aload_n 0, 1) := by decide +kernel
theorem dX4_vial_14 : decode cX4_vial 14 = .ok (.invokevirtual 57, 3) := by decide +kernel
theorem dX4_vial_17 : decode cX4_vial 17 = .ok (.iconst 1, 1) := by decide +kernel
theorem dX4_vial_18 : decode cX4_vial 18 = .ok (.isub, 1) := by decide +kernel
theorem dX4_vial_19 : decode cX4_vial 19 = .ok (.invokestatic 53, 3) := by decide +kernel
theorem dX4_vial_22 : decode cX4_vial 22 = .ok (.ifCond .ne 7, 3) := by decide +kernel
theorem dX4_vial_25 : decode cX4_vial 25 = .ok (.sipush (-10001), 3) := by decide +kernel
theorem dX4_vial_28 : decode cX4_vial 28 = .ok (.ireturn, 1) := by decide +kernel
theorem dX4_vial_29 : decode cX4_vial 29 = .ok (.iload_n 2, 1) := by decide +kernel
theorem dX4_vial_30 : decode cX4_vial 30 = .ok (.iconst 0, 1) := by decide +kernel
theorem dX4_vial_31 : decode cX4_vial 31 = .ok (.iconst 4, 1) := by decide +kernel
theorem dX4_vial_32 : decode cX4_vial 32 = .ok (.invokestatic 53, 3) := by decide +kernel
theorem dX4_vial_35 : decode cX4_vial 35 = .ok (.ifCond .ne 7, 3) := by decide +kernel
theorem dX4_vial_38 : decode cX4_vial 38 = .ok (.sipush (-10002), 3) := by decide +kernel
theorem dX4_vial_41 : decode cX4_vial 41 = .ok (.ireturn, 1) := by decide +kernel
theorem dX4_vial_42 : decode cX4_vial 42 = .ok (.aload_n 0, 1) := by decide +kernel
theorem dX4_vial_43 : decode cX4_vial 43 = .ok (.iload_n 1, 1) := by decide +kernel
theorem dX4_vial_44 : decode cX4_vial 44 = .ok (.invokevirtual 84, 3) := by decide +kernel
theorem dX4_vial_47 : decode cX4_vial 47 = .ok (.ifCond .eq 13, 3) := by decide +kernel
theorem dX4_vial_50 : decode cX4_vial 50 = .ok (.aload_n 0, 1) := by decide +kernel
theorem dX4_vial_51 : decode cX4_vial 51 = .ok (.getfield 19, 3) := by decide +kernel
theorem dX4_vial_54 : decode cX4_vial 54 = .ok (.getfield 105, 3) := by decide +kernel
theorem dX4_vial_57 : decode cX4_vial 57 = .ok (.goto 10, 3) := by decide +kernel
theorem dX4_vial_60 : decode cX4_vial 60 = .ok (.aload_n 0, 1) := by decide +kernel
theorem dX4_vial_61 : decode cX4_vial 61 = .ok (.getfield 19, 3) := by decide +kernel
theorem dX4_vial_64 : decode cX4_vial 64 = .ok (.getfield 109, 3) := by decide +kernel
theorem dX4_vial_67 : decode cX4_vial 67 = .ok (.astore_n 3, 1) := by decide +kernel
theorem dX4_vial_68 : decode cX4_vial 68 = .ok (.aload_n 3, 1) := by decide +kernel
theorem dX4_vial_69 : decode cX4_vial 69 = .ok (.iload_n 2, 1) := by decide +kernel
theorem dX4_vial_70 : decode cX4_vial 70 = .ok (.invokevirtual 112, 3) := by decide +kernel
theorem dX4_vial_73 : decode cX4_vial 73 = .ok (.ireturn, 1) := by decide +kernel
theorem dX4_about_0 : decode cX4_about 0 = .ok (.iload_n 1, 1) := by decide +kernel
theorem dX4_about_1 : decode cX4_about 1 = .ok (.iconst 0, 1) := by decide +kernel
theorem dX4_about_2 : decode cX4_about 2 = .ok (.bipush 9, 2) := by decide +kernel
theorem dX4_about_4 : decode cX4_about 4 = .ok (.invokestatic 53, 3) := by decide +kernel
theorem dX4_about_7 : decode cX4_about 7 = .ok (.ifCond .ne 7, 3) := by decide +kernel
theorem dX4_about_10 : decode cX4_about 10 = .ok (.sipush (-10002), 3) := by decide +kernel
theorem dX4_about_13 : decode cX4_about 13 = .ok (.ireturn, 1) := by decide +kernel
theorem dX4_about_14 : decode cX4_about 14 = .ok (.iload_n 1, 1) := by decide +kernel
theorem dX4_about_15 : decode cX4_about 15 = .ok (.bipush 8, 2) := by decide +kernel
theorem dX4_about_17 : decode cX4_about 17 = .ok (.if_icmp .ne 8, 3) := by decide +kernel
theorem dX4_about_20 : decode cX4_about 20 = .ok (.aload_n 0, 1) := by decide +kernel
theorem dX4_about_21 : decode cX4_about 21 = .ok (.getfield 40, 3) := by decide +kernel
theorem dX4_about_24 : decode cX4_about 24 = .ok (.ireturn, 1) := by decide +kernel
theorem dX4_about_25 : decode cX4_about 25 = .ok (.iload_n 1, 1) := by decide +kernel
theorem dX4_about_26 : decode cX4_about 26 = .ok (.bipush 9, 2) := by decide +kernel
theorem dX4_about_28 : decode cX4_about 28 = .ok (.if_icmp .ne 8, 3) := by decide +kernel
theorem dX4_about_31 : decode cX4_about 31 = .ok (.aload_n 0, 1) := by decide +kernel
theorem dX4_about_32 : decode cX4_about 32 = .ok (.getfield 43, 3) := by decide +kernel
theorem dX4_about_35 : decode cX4_about 35 = .ok (.ireturn, 1) := by decide +kernel
theorem dX4_about_36 : decode cX4_about 36 = .ok (.aload_n 0, 1) := by decide +kernel
theorem dX4_about_37 : decode cX4_about 37 = .ok (.getfield 46, 3) := by decide +kernel
theorem dX4_about_40 : decode cX4_about 40 = .ok (.ifCond .eq 14, 3) := by decide +kernel
theorem dX4_about_43 : decode cX4_about 43 = .ok (.aload_n 0, 1) := by decide +kernel
theorem dX4_about_44 : decode cX4_about 44 = .ok (.getfield 19, 3) := by decide +kernel
theorem dX4_about_47 : decode cX4_about 47 = .ok (.iload_n 1, 1) := by decide +kernel
theorem dX4_about_48 : decode cX4_about 48 = .ok (.invokevirtual 117, 3) := by decide +kernel
theorem dX4_about_51 : decode cX4_about 51 = .ok (.goto 6, 3) := by decide +kernel
theorem dX4_about_54 : decode cX4_about 54 = .ok (.sipush (-10003), 3) := by decide +kernel
theorem dX4_about_57 : decode cX4_about 57 = .ok (.ireturn, 1) := by decide +kernel
theorem dX4_gauge_0 : decode cX4_gauge 0 = .ok (.aload_n 0, 1) := by decide +kernel
theorem dX4_gauge_1 : decode cX4_gauge 1 = .ok (.getfield 46, 3) := by decide +kernel
theorem dX4_gauge_4 : decode cX4_gauge 4 = .ok (.ifCond .ne 6, 3) := by decide +kernel
theorem dX4_gauge_7 : decode cX4_gauge 7 = .ok (.bipush (-3), 2) := by decide +kernel
theorem dX4_gauge_9 : decode cX4_gauge 9 = .ok (.ireturn, 1) := by decide +kernel
theorem dX4_gauge_10 : decode cX4_gauge 10 = .ok (.iload_n 1, 1) := by decide +kernel
theorem dX4_gauge_11 : decode cX4_gauge 11 = .ok (.iconst 1, 1) := by decide +kernel
theorem dX4_gauge_12 : decode cX4_gauge 12 = .ok (.aload_n 0, 1) := by decide +kernel
theorem dX4_gauge_13 : decode cX4_gauge 13 = .ok (.getfield 19, 3) := by decide +kernel
theorem dX4_gauge_16 : decode cX4_gauge 16 = .ok (.getfield 95, 3) := by decide +kernel
theorem dX4_gauge_19 : decode cX4_gauge 19 = .ok (.invokestatic 53, 3) := by decide +kernel
theorem dX4_gauge_22 : decode cX4_gauge 22 = .ok (.ifCond .ne 5, 3) := by decide +kernel
theorem dX4_gauge_25 : decode cX4_gauge 25 = .ok (.iconst (-1), 1) := by decide +kernel
theorem dX4_gauge_26 : decode cX4_gauge 26 = .ok (.ireturn, 1) := by decide +kernel
theorem dX4_gauge_27 : decode cX4_gauge 27 = .ok (.iload_n 2, 1) := by decide +kernel
theorem dX4_gauge_28 : decode cX4_gauge 28 = .ok (.iconst 0, 1) := by decide +kernel
theorem dX4_gauge_29 : decode cX4_gauge 29 = .ok (.iconst 1, 1) := by decide +kernel
theorem dX4_gauge_30 : decode cX4_gauge 30 = .ok (.invokestatic 53, 3) := by decide +kernel
theorem dX4_gauge_33 : decode cX4_gauge 33 = .ok (.ifCond .ne 6, 3) := by decide +kernel
theorem dX4_gauge_36 : decode cX4_gauge 36 = .ok (.bipush (-2), 2) := by decide +kernel
theorem dX4_gauge_38 : decode cX4_gauge 38 = .ok (.ireturn, 1) := by decide +kernel
theorem dX4_gauge_39 : decode cX4_gauge 39 = .ok (.iload_n 2, 1) := by decide +kernel
theorem dX4_gauge_40 : decode cX4_gauge 40 = .ok (.ifCond .ne 14, 3) := by decide +kernel
theorem dX4_gauge_43 : decode cX4_gauge 43 = .ok (.aload_n 0, 1) := by decide +kernel
theorem dX4_gauge_44 : decode cX4_gauge 44 = .ok (.getfield 29, 3) := by decide +kernel
theorem dX4_gauge_47 : decode cX4_gauge 47 = .ok (.iload_n 1, 1) := by decide +kernel
theorem dX4_gauge_48 : decode cX4_gauge 48 = .ok (.invokevirtual 118, 3) := by decide +kernel
theorem dX4_gauge_51 : decode cX4_gauge 51 = .ok (.goto 11, 3) := by decide +kernel
theorem dX4_gauge_54 : decode cX4_gauge 54 = .ok (.aload_n 0, 1) := by decide +kernel
theorem dX4_gauge_55 : decode cX4_gauge 55 = .ok (.getfield 29, 3) := by decide +kernel
theorem dX4_gauge_58 : decode cX4_gauge 58 = .ok (.iload_n 1, 1) := by decide +kernel
theorem dX4_gauge_59 : decode cX4_gauge 59 = .ok (.invokevirtual 121, 3) := by decide +kernel
theorem dX4_gauge_62 : decode cX4_gauge 62 = .ok (.ireturn, 1) := by decide +kernel
theorem dX4_end_0 : decode cX4_end 0 = .ok (.iload_n 1, 1) := by decide +kernel
theorem dX4_end_1 : decode cX4_end 1 = .ok (.iconst 0, 1) := by decide +kernel
theorem dX4_end_2 : decode cX4_end 2 = .ok (.bipush 100, 2) := by decide +kernel
theorem dX4_end_4 : decode cX4_end 4 = .ok (.invokestatic 53, 3) := by decide +kernel
theorem dX4_end_7 : decode cX4_end 7 = .ok (.ifCond .eq 13, 3) := by decide +kernel
theorem dX4_end_10 : decode cX4_end 10 = .ok (.iload_n 2, 1) := by decide +kernel
theorem dX4_end_11 : decode cX4_end 11 = .ok (.iconst 1, 1) := by decide +kernel
theorem dX4_end_12 : decode cX4_end 12 = .ok (.bipush 60, 2) := by decide +kernel
theorem dX4_end_14 : decode cX4_end 14 = .ok (.invokestatic 53, 3) := by decide +kernel
theorem dX4_end_17 : decode cX4_end 17 = .ok (.ifCond .ne 6, 3) := by decide +kernel
theorem dX4_end_20 : decode cX4_end 20 = .ok (.bipush (-2), 2) := by decide +kernel
theorem dX4_end_22 : decode cX4_end 22 = .ok (.ireturn, 1) := by decide +kernel
theorem dX4_end_23 : decode cX4_end 23 = .ok (.aload_n 0, 1) := by decide +kernel
theorem dX4_end_24 : decode cX4_end 24 = .ok (.getfield 46, 3) := by decide +kernel
theorem dX4_end_27 : decode cX4_end 27 = .ok (.ifCond .eq 22, 3) := by decide +kernel
theorem dX4_end_30 : decode cX4_end 30 = .ok (.aload_n 0, 1) := by decide +kernel
theorem dX4_end_31 : decode cX4_end 31 = .ok (.getfield 29, 3) := by decide +kernel
theorem dX4_end_34 : decode cX4_end 34 = .ok (.aload_n 0, 1) := by decide +kernel
theorem dX4_end_35 : decode cX4_end 35 = .ok (.getfield 19, 3) := by decide +kernel
theorem dX4_end_38 : decode cX4_end 38 = .ok (.getfield 95, 3) := by decide +kernel
theorem dX4_end_41 : decode cX4_end 41 = .ok (.iload_n 1, 1) := by decide +kernel
theorem dX4_end_42 : decode cX4_end 42 = .ok (.iload_n 2, 1) := by decide +kernel
theorem dX4_end_43 : decode cX4_end 43 = .ok (.invokevirtual 124, 3) := by decide +kernel
theorem dX4_end_46 : decode cX4_end 46 = .ok (.goto 5, 3) := by decide +kernel
theorem dX4_end_49 : decode cX4_end 49 = .ok (.bipush (-3), 2) := by decide +kernel
theorem dX4_end_51 : decode cX4_end 51 = .ok (.ireturn, 1) := by decide +kernel
theorem dX4_wet_0 : decode cX4_wet 0 = .ok (.aload_n 0, 1) := by decide +kernel
theorem dX4_wet_1 : decode cX4_wet 1 = .ok (.getfield 46, 3) := by decide +kernel
theorem dX4_wet_4 : decode cX4_wet 4 = .ok (.ifCond .ne 6, 3) := by decide +kernel
theorem dX4_wet_7 : decode cX4_wet 7 = .ok (.bipush (-3), 2) := by decide +kernel
theorem dX4_wet_9 : decode cX4_wet 9 = .ok (.ireturn, 1) := by decide +kernel
theorem dX4_wet_10 : decode cX4_wet 10 = .ok (.iload_n 1, 1) := by decide +kernel
theorem dX4_wet_11 : decode cX4_wet 11 = .ok (.iconst 0, 1) := by decide +kernel
theorem dX4_wet_12 : decode cX4_wet 12 = .ok (.aload_n 0, 1) := by decide +kernel
theorem dX4_wet_13 : decode cX4_wet 13 = .ok (.getfield 19, 3) := by decide +kernel
theorem dX4_wet_16 : decode cX4_wet 16 = .ok (.getfield 95, 3) := by decide +kernel
theorem dX4_wet_19 : decode cX4_wet 19 = .ok (.invokestatic 53, 3) := by decide +kernel
theorem dX4_wet_22 : decode cX4_wet 22 = .ok (.ifCond .eq 14, 3) := by decide +kernel
theorem dX4_wet_25 : decode cX4_wet 25 = .ok (.aload_n 0, 1) := by decide +kernel
theorem dX4_wet_26 : decode cX4_wet 26 = .ok (.getfield 29, 3) := by decide +kernel
theorem dX4_wet_29 : decode cX4_wet 29 = .ok (.iload_n 1, 1) := by decide +kernel
theorem dX4_wet_30 : decode cX4_wet 30 = .ok (.invokevirtual 127, 3) := by decide +kernel
theorem dX4_wet_33 : decode cX4_wet 33 = .ok (.goto 4, 3) := by decide +kernel
theorem dX4_wet_36 : decode cX4_wet 36 = .ok (.iconst (-1), 1) := by decide +kernel
theorem dX4_wet_37 : decode cX4_wet 37 = .ok (.ireturn, 1) := by decide +kernel
theorem dX4_firstFallen_0 : decode cX4_firstFallen 0 = .ok (.aload_n 0, 1) := by decide +kernel
theorem dX4_firstFallen_1 : decode cX4_firstFallen 1 = .ok (.getfield 46, 3) := by decide +kernel
theorem dX4_firstFallen_4 : decode cX4_firstFallen 4 = .ok (.ifCond .eq 13, 3) := by decide +kernel
theorem dX4_firstFallen_7 : decode cX4_firstFallen 7 = .ok (.aload_n 0, 1) := by decide +kernel
theorem dX4_firstFallen_8 : decode cX4_firstFallen 8 = .ok (.getfield 19, 3) := by decide +kernel
theorem dX4_firstFallen_11 : decode cX4_firstFallen 11 = .ok (.invokevirtual 130, 3) := by decide +kernel
theorem dX4_firstFallen_14 : decode cX4_firstFallen 14 = .ok (.goto 5, 3) := by decide +kernel
theorem dX4_firstFallen_17 : decode cX4_firstFallen 17 = .ok (.bipush (-3), 2) := by decide +kernel
theorem dX4_firstFallen_19 : decode cX4_firstFallen 19 = .ok (.ireturn, 1) := by decide +kernel
theorem dX4_trial_0 : decode cX4_trial 0 = .ok (.iload_n 1, 1) := by decide +kernel
theorem dX4_trial_1 : decode cX4_trial 1 = .ok (.sipush (-600), 3) := by decide +kernel
theorem dX4_trial_4 : decode cX4_trial 4 = .ok (.sipush 400, 3) := by decide +kernel
theorem dX4_trial_7 : decode cX4_trial 7 = .ok (.invokestatic 53, 3) := by decide +kernel
theorem dX4_trial_10 : decode cX4_trial 10 = .ok (.ifCond .eq 11, 3) := by decide +kernel
theorem dX4_trial_13 : decode cX4_trial 13 = .ok (.iload_n 2, 1) := by decide +kernel
theorem dX4_trial_14 : decode cX4_trial 14 = .ok (.iload_n 3, 1) := by decide +kernel
theorem dX4_trial_15 : decode cX4_trial 15 = .ok (.invokestatic 133, 3) := by decide +kernel
theorem dX4_trial_18 : decode cX4_trial 18 = .ok (.ifCond .ne 6, 3) := by decide +kernel
theorem dX4_trial_21 : decode cX4_trial 21 = .ok (.bipush (-2), 2) := by decide +kernel
theorem dX4_trial_23 : decode cX4_trial 23 = .ok (.ireturn, 1) := by decide +kernel
theorem dX4_trial_24 : decode cX4_trial 24 = .ok (.aload_n 0, 1) := by decide +kernel
theorem dX4_trial_25 : decode cX4_trial 25 = .ok (.iload_n 1, 1) := by decide +kernel
theorem dX4_trial_26 : decode cX4_trial 26 = .ok (.iload_n 2, 1) := by decide +kernel
theorem dX4_trial_27 : decode cX4_trial 27 = .ok (.iload_n 3, 1) := by decide +kernel
theorem dX4_trial_28 : decode cX4_trial 28 = .ok (.invokevirtual 136, 3) := by decide +kernel
theorem dX4_trial_31 : decode cX4_trial 31 = .ok (.ifCond .eq 7, 3) := by decide +kernel
theorem dX4_trial_34 : decode cX4_trial 34 = .ok (.iconst 1, 1) := by decide +kernel
theorem dX4_trial_35 : decode cX4_trial 35 = .ok (.goto 4, 3) := by decide +kernel
theorem dX4_trial_38 : decode cX4_trial 38 = .ok (.iconst 0, 1) := by decide +kernel
theorem dX4_trial_39 : decode cX4_trial 39 = .ok (.ireturn, 1) := by decide +kernel
theorem dX4_tried_0 : decode cX4_tried 0 = .ok (.iload_n 1, 1) := by decide +kernel
theorem dX4_tried_1 : decode cX4_tried 1 = .ok (.iconst 0, 1) := by decide +kernel
theorem dX4_tried_2 : decode cX4_tried 2 = .ok (.iconst 4, 1) := by decide +kernel
theorem dX4_tried_3 : decode cX4_tried 3 = .ok (.invokestatic 53, 3) := by decide +kernel
theorem dX4_tried_6 : decode cX4_tried 6 = .ok (.ifCond .ne 6, 3) := by decide +kernel
theorem dX4_tried_9 : decode cX4_tried 9 = .ok (.bipush (-2), 2) := by decide +kernel
theorem dX4_tried_11 : decode cX4_tried 11 = .ok (.ireturn, 1) := by decide +kernel
theorem dX4_tried_12 : decode cX4_tried 12 = .ok (.aload_n 0, 1) := by decide +kernel
theorem dX4_tried_13 : decode cX4_tried 13 = .ok (.getfield 50, 3) := by decide +kernel
theorem dX4_tried_16 : decode cX4_tried 16 = .ok (.ifCond .ne 6, 3) := by decide +kernel
theorem dX4_tried_19 : decode cX4_tried 19 = .ok (.bipush (-3), 2) := by decide +kernel
theorem dX4_tried_21 : decode cX4_tried 21 = .ok (.ireturn, 1) := by decide +kernel
theorem dX4_tried_22 : decode cX4_tried 22 = .ok (.iload_n 1, 1) := by decide +kernel
theorem dX4_tried_23 : decode cX4_tried 23 = .ok (.tableswitch 64 0 3 #[29, 37, 45, 56], 29) := by decide +kernel
theorem dX4_tried_52 : decode cX4_tried 52 = .ok (.aload_n 0, 1) := by decide +kernel
theorem dX4_tried_53 : decode cX4_tried 53 = .ok (.getfield 23, 3) := by decide +kernel
theorem dX4_tried_56 : decode cX4_tried 56 = .ok (.getfield 95, 3) := by decide +kernel
theorem dX4_tried_59 : decode cX4_tried 59 = .ok (.ireturn, 1) := by decide +kernel
theorem dX4_tried_60 : decode cX4_tried 60 = .ok (.aload_n 0, 1) := by decide +kernel
theorem dX4_tried_61 : decode cX4_tried 61 = .ok (.getfield 23, 3) := by decide +kernel
theorem dX4_tried_64 : decode cX4_tried 64 = .ok (.invokevirtual 130, 3) := by decide +kernel
theorem dX4_tried_67 : decode cX4_tried 67 = .ok (.ireturn, 1) := by decide +kernel
theorem dX4_tried_68 : decode cX4_tried 68 = .ok (.aload_n 0, 1) := by decide +kernel
theorem dX4_tried_69 : decode cX4_tried 69 = .ok (.getfield 23, 3) := by decide +kernel
theorem dX4_tried_72 : decode cX4_tried 72 = .ok (.invokevirtual 139, 3) := by decide +kernel
theorem dX4_tried_75 : decode cX4_tried 75 = .ok (.getfield 143, 3) := by decide +kernel
theorem dX4_tried_78 : decode cX4_tried 78 = .ok (.ireturn, 1) := by decide +kernel
theorem dX4_tried_79 : decode cX4_tried 79 = .ok (.aload_n 0, 1) := by decide +kernel
theorem dX4_tried_80 : decode cX4_tried 80 = .ok (.getfield 23, 3) := by decide +kernel
theorem dX4_tried_83 : decode cX4_tried 83 = .ok (.getfield 146, 3) := by decide +kernel
theorem dX4_tried_86 : decode cX4_tried 86 = .ok (.ireturn, 1) := by decide +kernel
theorem dX4_tried_87 : decode cX4_tried 87 = .ok (.aload_n 0, 1) := by decide +kernel
theorem dX4_tried_88 : decode cX4_tried 88 = .ok (.getfield 23, 3) := by decide +kernel
theorem dX4_tried_91 : decode cX4_tried 91 = .ok (.invokevirtual 102, 3) := by decide +kernel
theorem dX4_tried_94 : decode cX4_tried 94 = .ok (.ireturn, 1) := by decide +kernel
theorem dX4_edge_0 : decode cX4_edge 0 = .ok (.iload_n 1, 1) := by decide +kernel
theorem dX4_edge_1 : decode cX4_edge 1 = .ok (.iload_n 2, 1) := by decide +kernel
theorem dX4_edge_2 : decode cX4_edge 2 = .ok (.invokestatic 133, 3) := by decide +kernel
theorem dX4_edge_5 : decode cX4_edge 5 = .ok (.ifCond .ne 7, 3) := by decide +kernel
theorem dX4_edge_8 : decode cX4_edge 8 = .ok (.sipush (-10002), 3) := by decide +kernel
theorem dX4_edge_11 : decode cX4_edge 11 = .ok (.ireturn, 1) := by decide +kernel
theorem dX4_edge_12 : decode cX4_edge 12 = .ok (.sipush (-10000), 3) := by decide +kernel
theorem dX4_edge_15 : decode cX4_edge 15 = .ok (.istore_n 3, 1) := by decide +kernel
theorem dX4_edge_16 : decode cX4_edge 16 = .ok (.sipush (-600), 3) := by decide +kernel
theorem dX4_edge_19 : decode cX4_edge 19 = .ok (.istore 4, 2) := by decide +kernel
theorem dX4_edge_21 : decode cX4_edge 21 = .ok (.iload 4, 2) := by decide +kernel
theorem dX4_edge_23 : decode cX4_edge 23 = .ok (.sipush 400, 3) := by decide +kernel
theorem dX4_edge_26 : decode cX4_edge 26 = .ok (.if_icmp .gt 25, 3) := by decide +kernel
theorem dX4_edge_29 : decode cX4_edge 29 = .ok (.aload_n 0, 1) := by decide +kernel
theorem dX4_edge_30 : decode cX4_edge 30 = .ok (.iload 4, 2) := by decide +kernel
theorem dX4_edge_32 : decode cX4_edge 32 = .ok (.iload_n 1, 1) := by decide +kernel
theorem dX4_edge_33 : decode cX4_edge 33 = .ok (.iload_n 2, 1) := by decide +kernel
theorem dX4_edge_34 : decode cX4_edge 34 = .ok (.invokevirtual 136, 3) := by decide +kernel
theorem dX4_edge_37 : decode cX4_edge 37 = .ok (.ifCond .ne 5, 3) := by decide +kernel
theorem dX4_edge_40 : decode cX4_edge 40 = .ok (.iload_n 3, 1) := by decide +kernel
theorem dX4_edge_41 : decode cX4_edge 41 = .ok (.ireturn, 1) := by decide +kernel
theorem dX4_edge_42 : decode cX4_edge 42 = .ok (.iload 4, 2) := by decide +kernel
theorem dX4_edge_44 : decode cX4_edge 44 = .ok (.istore_n 3, 1) := by decide +kernel
theorem dX4_edge_45 : decode cX4_edge 45 = .ok (.iinc 4 50, 3) := by decide +kernel
theorem dX4_edge_48 : decode cX4_edge 48 = .ok (.goto (-27), 3) := by decide +kernel
theorem dX4_edge_51 : decode cX4_edge 51 = .ok (.iload_n 3, 1) := by decide +kernel
theorem dX4_edge_52 : decode cX4_edge 52 = .ok (.ireturn, 1) := by decide +kernel
theorem dX4_told_0 : decode cX4_told 0 = .ok (.iload_n 1, 1) := by decide +kernel
theorem dX4_told_1 : decode cX4_told 1 = .ok (.bipush 10, 2) := by decide +kernel
theorem dX4_told_3 : decode cX4_told 3 = .ok (.if_icmp .lt 25, 3) := by decide +kernel
theorem dX4_told_6 : decode cX4_told 6 = .ok (.iload_n 1, 1) := by decide +kernel
theorem dX4_told_7 : decode cX4_told 7 = .ok (.bipush 10, 2) := by decide +kernel
theorem dX4_told_9 : decode cX4_told 9 = .ok (.isub, 1) := by decide +kernel
theorem dX4_told_10 : decode cX4_told 10 = .ok (.invokestatic 61, 3) := by decide +kernel
theorem dX4_told_13 : decode cX4_told 13 = .ok (.ifCond .eq 15, 3) := by decide +kernel
theorem dX4_told_16 : decode cX4_told 16 = .ok (.aload_n 0, 1) := by decide +kernel
theorem dX4_told_17 : decode cX4_told 17 = .ok (.getfield 10, 3) := by decide +kernel
theorem dX4_told_20 : decode cX4_told 20 = .ok (.iload_n 1, 1) := by decide +kernel
theorem dX4_told_21 : decode cX4_told 21 = .ok (.bipush 10, 2) := by decide +kernel
theorem dX4_told_23 : decode cX4_told 23 = .ok (.isub, 1) := by decide +kernel
theorem dX4_told_24 : decode cX4_told 24 = .ok (.invokevirtual 149, 3) := by decide +kernel
theorem dX4_told_27 : decode cX4_told 27 = .ok (.ireturn, 1) := by decide +kernel
theorem dX4_told_28 : decode cX4_told 28 = .ok (.iload_n 1, 1) := by decide +kernel
theorem dX4_told_29 : decode cX4_told 29 = .ok (.tableswitch 59 0 3 #[31, 36, 41, 46], 31) := by decide +kernel
theorem dX4_told_60 : decode cX4_told 60 = .ok (.aload_n 0, 1) := by decide +kernel
theorem dX4_told_61 : decode cX4_told 61 = .ok (.getfield 33, 3) := by decide +kernel
theorem dX4_told_64 : decode cX4_told 64 = .ok (.ireturn, 1) := by decide +kernel
theorem dX4_told_65 : decode cX4_told 65 = .ok (.aload_n 0, 1) := by decide +kernel
theorem dX4_told_66 : decode cX4_told 66 = .ok (.getfield 37, 3) := by decide +kernel
theorem dX4_told_69 : decode cX4_told 69 = .ok (.ireturn, 1) := by decide +kernel
theorem dX4_told_70 : decode cX4_told 70 = .ok (.aload_n 0, 1) := by decide +kernel
theorem dX4_told_71 : decode cX4_told 71 = .ok (.invokevirtual 57, 3) := by decide +kernel
theorem dX4_told_74 : decode cX4_told 74 = .ok (.ireturn, 1) := by decide +kernel
theorem dX4_told_75 : decode cX4_told 75 = .ok (.aload_n 0, 1) := by decide +kernel
theorem dX4_told_76 : decode cX4_told 76 = .ok (.getfield 46, 3) := by decide +kernel
theorem dX4_told_79 : decode cX4_told 79 = .ok (.ifCond .eq 7, 3) := by decide +kernel
theorem dX4_told_82 : decode cX4_told 82 = .ok (.iconst 1, 1) := by decide +kernel
theorem dX4_told_83 : decode cX4_told 83 = .ok (.goto 4, 3) := by decide +kernel
theorem dX4_told_86 : decode cX4_told 86 = .ok (.iconst 0, 1) := by decide +kernel
theorem dX4_told_87 : decode cX4_told 87 = .ok (.ireturn, 1) := by decide +kernel
theorem dX4_told_88 : decode cX4_told 88 = .ok (.sipush (-10002), 3) := by decide +kernel
theorem dX4_told_91 : decode cX4_told 91 = .ok (.ireturn, 1) := by decide +kernel
theorem dX4_places_0 : decode cX4_places 0 = .ok (.aload_n 0, 1) := by decide +kernel
theorem dX4_places_1 : decode cX4_places 1 = .ok (.getfield 33, 3) := by decide +kernel
theorem dX4_places_4 : decode cX4_places 4 = .ok (.aload_n 0, 1) := by decide +kernel
theorem dX4_places_5 : decode cX4_places 5 = .ok (.getfield 37, 3) := by decide +kernel
theorem dX4_places_8 : decode cX4_places 8 = .ok (.imul, 1) := by decide +kernel
theorem dX4_places_9 : decode cX4_places 9 = .ok (.ireturn, 1) := by decide +kernel
theorem dX4_isAtRim_0 : decode cX4_isAtRim 0 = .ok (.iload_n 1, 1) := by decide +kernel
theorem dX4_isAtRim_1 : decode cX4_isAtRim 1 = .ok (.aload_n 0, 1) := by decide +kernel
theorem dX4_isAtRim_2 : decode cX4_isAtRim 2 = .ok (.getfield 37, 3) := by decide +kernel
theorem dX4_isAtRim_5 : decode cX4_isAtRim 5 = .ok (.invokestatic 152, 3) := by decide +kernel
theorem dX4_isAtRim_8 : decode cX4_isAtRim 8 = .ok (.istore_n 2, 1) := by decide +kernel
theorem dX4_isAtRim_9 : decode cX4_isAtRim 9 = .ok (.iload_n 1, 1) := by decide +kernel
theorem dX4_isAtRim_10 : decode cX4_isAtRim 10 = .ok (.iload_n 2, 1) := by decide +kernel
theorem dX4_isAtRim_11 : decode cX4_isAtRim 11 = .ok (.aload_n 0, 1) := by decide +kernel
theorem dX4_isAtRim_12 : decode cX4_isAtRim 12 = .ok (.getfield 37, 3) := by decide +kernel
theorem dX4_isAtRim_15 : decode cX4_isAtRim 15 = .ok (.imul, 1) := by decide +kernel
theorem dX4_isAtRim_16 : decode cX4_isAtRim 16 = .ok (.isub, 1) := by decide +kernel
theorem dX4_isAtRim_17 : decode cX4_isAtRim 17 = .ok (.istore_n 3, 1) := by decide +kernel
theorem dX4_isAtRim_18 : decode cX4_isAtRim 18 = .ok (.iload_n 2, 1) := by decide +kernel
theorem dX4_isAtRim_19 : decode cX4_isAtRim 19 = .ok (.ifCond .eq 27, 3) := by decide +kernel
theorem dX4_isAtRim_22 : decode cX4_isAtRim 22 = .ok (.iload_n 2, 1) := by decide +kernel
theorem dX4_isAtRim_23 : decode cX4_isAtRim 23 = .ok (.aload_n 0, 1) := by decide +kernel
theorem dX4_isAtRim_24 : decode cX4_isAtRim 24 = .ok (.getfield 33, 3) := by decide +kernel
theorem dX4_isAtRim_27 : decode cX4_isAtRim 27 = .ok (.iconst 1, 1) := by decide +kernel
theorem dX4_isAtRim_28 : decode cX4_isAtRim 28 = .ok (.isub, 1) := by decide +kernel
theorem dX4_isAtRim_29 : decode cX4_isAtRim 29 = .ok (.if_icmp .eq 17, 3) := by decide +kernel
theorem dX4_isAtRim_32 : decode cX4_isAtRim 32 = .ok (.iload_n 3, 1) := by decide +kernel
theorem dX4_isAtRim_33 : decode cX4_isAtRim 33 = .ok (.ifCond .eq 13, 3) := by decide +kernel
theorem dX4_isAtRim_36 : decode cX4_isAtRim 36 = .ok (.iload_n 3, 1) := by decide +kernel
theorem dX4_isAtRim_37 : decode cX4_isAtRim 37 = .ok (.aload_n 0, 1) := by decide +kernel
theorem dX4_isAtRim_38 : decode cX4_isAtRim 38 = .ok (.getfield 37, 3) := by decide +kernel
theorem dX4_isAtRim_41 : decode cX4_isAtRim 41 = .ok (.iconst 1, 1) := by decide +kernel
theorem dX4_isAtRim_42 : decode cX4_isAtRim 42 = .ok (.isub, 1) := by decide +kernel
theorem dX4_isAtRim_43 : decode cX4_isAtRim 43 = .ok (.if_icmp .ne 7, 3) := by decide +kernel
theorem dX4_isAtRim_46 : decode cX4_isAtRim 46 = .ok (.iconst 1, 1) := by decide +kernel
theorem dX4_isAtRim_47 : decode cX4_isAtRim 47 = .ok (.goto 4, 3) := by decide +kernel
theorem dX4_isAtRim_50 : decode cX4_isAtRim 50 = .ok (.iconst 0, 1) := by decide +kernel
theorem dX4_isAtRim_51 : decode cX4_isAtRim 51 = .ok (.ireturn, 1) := by decide +kernel
theorem dX4_isMapped_0 : decode cX4_isMapped 0 = .ok (.iload_n 0, 1) := by decide +kernel
theorem dX4_isMapped_1 : decode cX4_isMapped 1 = .ok (.iconst 0, 1) := by decide +kernel
theorem dX4_isMapped_2 : decode cX4_isMapped 2 = .ok (.sipush 5000, 3) := by decide +kernel
theorem dX4_isMapped_5 : decode cX4_isMapped 5 = .ok (.invokestatic 53, 3) := by decide +kernel
theorem dX4_isMapped_8 : decode cX4_isMapped 8 = .ok (.ifCond .eq 17, 3) := by decide +kernel
theorem dX4_isMapped_11 : decode cX4_isMapped 11 = .ok (.iload_n 1, 1) := by decide +kernel
theorem dX4_isMapped_12 : decode cX4_isMapped 12 = .ok (.iconst 1, 1) := by decide +kernel
theorem dX4_isMapped_13 : decode cX4_isMapped 13 = .ok (.bipush 100, 2) := by decide +kernel
theorem dX4_isMapped_15 : decode cX4_isMapped 15 = .ok (.invokestatic 53, 3) := by decide +kernel
theorem dX4_isMapped_18 : decode cX4_isMapped 18 = .ok (.ifCond .eq 7, 3) := by decide +kernel
theorem dX4_isMapped_21 : decode cX4_isMapped 21 = .ok (.iconst 1, 1) := by decide +kernel
theorem dX4_isMapped_22 : decode cX4_isMapped 22 = .ok (.goto 4, 3) := by decide +kernel
theorem dX4_isMapped_25 : decode cX4_isMapped 25 = .ok (.iconst 0, 1) := by decide +kernel
theorem dX4_isMapped_26 : decode cX4_isMapped 26 = .ok (.ireturn, 1) := by decide +kernel
theorem dX4_noneFalls_0 : decode cX4_noneFalls 0 = .ok (.aload_n 0, 1) := by decide +kernel
theorem dX4_noneFalls_1 : decode cX4_noneFalls 1 = .ok (.getfield 23, 3) := by decide +kernel
theorem dX4_noneFalls_4 : decode cX4_noneFalls 4 = .ok (.aload_n 0, 1) := by decide +kernel
theorem dX4_noneFalls_5 : decode cX4_noneFalls 5 = .ok (.getfield 10, 3) := by decide +kernel
theorem dX4_noneFalls_8 : decode cX4_noneFalls 8 = .ok (.aload_n 0, 1) := by decide +kernel
theorem dX4_noneFalls_9 : decode cX4_noneFalls 9 = .ok (.getfield 33, 3) := by decide +kernel
theorem dX4_noneFalls_12 : decode cX4_noneFalls 12 = .ok (.aload_n 0, 1) := by decide +kernel
theorem dX4_noneFalls_13 : decode cX4_noneFalls 13 = .ok (.getfield 37, 3) := by decide +kernel
theorem dX4_noneFalls_16 : decode cX4_noneFalls 16 = .ok (.iload_n 2, 1) := by decide +kernel
theorem dX4_noneFalls_17 : decode cX4_noneFalls 17 = .ok (.invokevirtual 87, 3) := by decide +kernel
theorem dX4_noneFalls_20 : decode cX4_noneFalls 20 = .ok (.iconst 0, 1) := by decide +kernel
theorem dX4_noneFalls_21 : decode cX4_noneFalls 21 = .ok (.istore 4, 2) := by decide +kernel
theorem dX4_noneFalls_23 : decode cX4_noneFalls 23 = .ok (.iload 4, 2) := by decide +kernel
theorem dX4_noneFalls_25 : decode cX4_noneFalls 25 = .ok (.iload_n 3, 1) := by decide +kernel
theorem dX4_noneFalls_26 : decode cX4_noneFalls 26 = .ok (.if_icmp .ge 32, 3) := by decide +kernel
theorem dX4_noneFalls_29 : decode cX4_noneFalls 29 = .ok (.aload_n 0, 1) := by decide +kernel
theorem dX4_noneFalls_30 : decode cX4_noneFalls 30 = .ok (.getfield 23, 3) := by decide +kernel
theorem dX4_noneFalls_33 : decode cX4_noneFalls 33 = .ok (.invokevirtual 102, 3) := by decide +kernel
theorem dX4_noneFalls_36 : decode cX4_noneFalls 36 = .ok (.ifCond .le 22, 3) := by decide +kernel
theorem dX4_noneFalls_39 : decode cX4_noneFalls 39 = .ok (.aload_n 0, 1) := by decide +kernel
theorem dX4_noneFalls_40 : decode cX4_noneFalls 40 = .ok (.getfield 23, 3) := by decide +kernel
theorem dX4_noneFalls_43 : decode cX4_noneFalls 43 = .ok (.aload_n 0, 1) := by decide +kernel
theorem dX4_noneFalls_44 : decode cX4_noneFalls 44 = .ok (.getfield 10, 3) := by decide +kernel
theorem dX4_noneFalls_47 : decode cX4_noneFalls 47 = .ok (.iload_n 1, 1) := by decide +kernel
theorem dX4_noneFalls_48 : decode cX4_noneFalls 48 = .ok (.iload_n 2, 1) := by decide +kernel
theorem dX4_noneFalls_49 : decode cX4_noneFalls 49 = .ok (.invokevirtual 98, 3) := by decide +kernel
theorem dX4_noneFalls_52 : decode cX4_noneFalls 52 = .ok (.iinc 4 1, 3) := by decide +kernel
theorem dX4_noneFalls_55 : decode cX4_noneFalls 55 = .ok (.goto (-32), 3) := by decide +kernel
theorem dX4_noneFalls_58 : decode cX4_noneFalls 58 = .ok (.aload_n 0, 1) := by decide +kernel
theorem dX4_noneFalls_59 : decode cX4_noneFalls 59 = .ok (.iconst 1, 1) := by decide +kernel
theorem dX4_noneFalls_60 : decode cX4_noneFalls 60 = .ok (.putfield 50, 3) := by decide +kernel
theorem dX4_noneFalls_63 : decode cX4_noneFalls 63 = .ok (.aload_n 0, 1) := by decide +kernel
theorem dX4_noneFalls_64 : decode cX4_noneFalls 64 = .ok (.getfield 23, 3) := by decide +kernel
theorem dX4_noneFalls_67 : decode cX4_noneFalls 67 = .ok (.invokevirtual 155, 3) := by decide +kernel
theorem dX4_noneFalls_70 : decode cX4_noneFalls 70 = .ok (.ifCond .ne 7, 3) := by decide +kernel
theorem dX4_noneFalls_73 : decode cX4_noneFalls 73 = .ok (.iconst 1, 1) := by decide +kernel
theorem dX4_noneFalls_74 : decode cX4_noneFalls 74 = .ok (.goto 4, 3) := by decide +kernel
theorem dX4_noneFalls_77 : decode cX4_noneFalls 77 = .ok (.iconst 0, 1) := by decide +kernel
theorem dX4_noneFalls_78 : decode cX4_noneFalls 78 = .ok (.ireturn, 1) := by decide +kernel
theorem dX4_within_0 : decode cX4_within 0 = .ok (.iload_n 0, 1) := by decide +kernel
theorem dX4_within_1 : decode cX4_within 1 = .ok (.iload_n 1, 1) := by decide +kernel
theorem dX4_within_2 : decode cX4_within 2 = .ok (.if_icmp .lt 12, 3) := by decide +kernel
theorem dX4_within_5 : decode cX4_within 5 = .ok (.iload_n 0, 1) := by decide +kernel
theorem dX4_within_6 : decode cX4_within 6 = .ok (.iload_n 2, 1) := by decide +kernel
theorem dX4_within_7 : decode cX4_within 7 = .ok (.if_icmp .gt 7, 3) := by decide +kernel
theorem dX4_within_10 : decode cX4_within 10 = .ok (.iconst 1, 1) := by decide +kernel
theorem dX4_within_11 : decode cX4_within 11 = .ok (.goto 4, 3) := by decide +kernel
theorem dX4_within_14 : decode cX4_within 14 = .ok (.iconst 0, 1) := by decide +kernel
theorem dX4_within_15 : decode cX4_within 15 = .ok (.ireturn, 1) := by decide +kernel
theorem dX4_quotient_0 : decode cX4_quotient 0 = .ok (.iload_n 1, 1) := by decide +kernel
theorem dX4_quotient_1 : decode cX4_quotient 1 = .ok (.ifCond .ne 7, 3) := by decide +kernel
theorem dX4_quotient_4 : decode cX4_quotient 4 = .ok (.iconst 0, 1) := by decide +kernel
theorem dX4_quotient_5 : decode cX4_quotient 5 = .ok (.goto 6, 3) := by decide +kernel
theorem dX4_quotient_8 : decode cX4_quotient 8 = .ok (.iload_n 0, 1) := by decide +kernel
theorem dX4_quotient_9 : decode cX4_quotient 9 = .ok (.iload_n 1, 1) := by decide +kernel
theorem dX4_quotient_10 : decode cX4_quotient 10 = .ok (.idiv, 1) := by decide +kernel
theorem dX4_quotient_11 : decode cX4_quotient 11 = .ok (.ireturn, 1) := by decide +kernel
theorem dX4_vapourAt_0 : decode cX4_vapourAt 0 = .ok (.iload_n 0, 1) := by decide +kernel
theorem dX4_vapourAt_1 : decode cX4_vapourAt 1 = .ok (.sipush (-600), 3) := by decide +kernel
theorem dX4_vapourAt_4 : decode cX4_vapourAt 4 = .ok (.isub, 1) := by decide +kernel
theorem dX4_vapourAt_5 : decode cX4_vapourAt 5 = .ok (.istore_n 1, 1) := by decide +kernel
theorem dX4_vapourAt_6 : decode cX4_vapourAt 6 = .ok (.iload_n 1, 1) := by decide +kernel
theorem dX4_vapourAt_7 : decode cX4_vapourAt 7 = .ok (.bipush 10, 2) := by decide +kernel
theorem dX4_vapourAt_9 : decode cX4_vapourAt 9 = .ok (.idiv, 1) := by decide +kernel
theorem dX4_vapourAt_10 : decode cX4_vapourAt 10 = .ok (.istore_n 2, 1) := by decide +kernel
theorem dX4_vapourAt_11 : decode cX4_vapourAt 11 = .ok (.iload_n 1, 1) := by decide +kernel
theorem dX4_vapourAt_12 : decode cX4_vapourAt 12 = .ok (.bipush 10, 2) := by decide +kernel
theorem dX4_vapourAt_14 : decode cX4_vapourAt 14 = .ok (.irem, 1) := by decide +kernel
theorem dX4_vapourAt_15 : decode cX4_vapourAt 15 = .ok (.istore_n 3, 1) := by decide +kernel
theorem dX4_vapourAt_16 : decode cX4_vapourAt 16 = .ok (.iload_n 2, 1) := by decide +kernel
theorem dX4_vapourAt_17 : decode cX4_vapourAt 17 = .ok (.iconst 2, 1) := by decide +kernel
theorem dX4_vapourAt_18 : decode cX4_vapourAt 18 = .ok (.iadd, 1) := by decide +kernel
theorem dX4_vapourAt_19 : decode cX4_vapourAt 19 = .ok (.istore 4, 2) := by decide +kernel
theorem dX4_vapourAt_21 : decode cX4_vapourAt 21 = .ok (.iload_n 2, 1) := by decide +kernel
theorem dX4_vapourAt_22 : decode cX4_vapourAt 22 = .ok (.iconst 3, 1) := by decide +kernel
theorem dX4_vapourAt_23 : decode cX4_vapourAt 23 = .ok (.iadd, 1) := by decide +kernel
theorem dX4_vapourAt_24 : decode cX4_vapourAt 24 = .ok (.istore 5, 2) := by decide +kernel
theorem dX4_vapourAt_26 : decode cX4_vapourAt 26 = .ok (.iload 4, 2) := by decide +kernel
theorem dX4_vapourAt_28 : decode cX4_vapourAt 28 = .ok (.iload 4, 2) := by decide +kernel
theorem dX4_vapourAt_30 : decode cX4_vapourAt 30 = .ok (.imul, 1) := by decide +kernel
theorem dX4_vapourAt_31 : decode cX4_vapourAt 31 = .ok (.iload 4, 2) := by decide +kernel
theorem dX4_vapourAt_33 : decode cX4_vapourAt 33 = .ok (.imul, 1) := by decide +kernel
theorem dX4_vapourAt_34 : decode cX4_vapourAt 34 = .ok (.bipush 20, 2) := by decide +kernel
theorem dX4_vapourAt_36 : decode cX4_vapourAt 36 = .ok (.idiv, 1) := by decide +kernel
theorem dX4_vapourAt_37 : decode cX4_vapourAt 37 = .ok (.istore 6, 2) := by decide +kernel
theorem dX4_vapourAt_39 : decode cX4_vapourAt 39 = .ok (.iload 5, 2) := by decide +kernel
theorem dX4_vapourAt_41 : decode cX4_vapourAt 41 = .ok (.iload 5, 2) := by decide +kernel
theorem dX4_vapourAt_43 : decode cX4_vapourAt 43 = .ok (.imul, 1) := by decide +kernel
theorem dX4_vapourAt_44 : decode cX4_vapourAt 44 = .ok (.iload 5, 2) := by decide +kernel
theorem dX4_vapourAt_46 : decode cX4_vapourAt 46 = .ok (.imul, 1) := by decide +kernel
theorem dX4_vapourAt_47 : decode cX4_vapourAt 47 = .ok (.bipush 20, 2) := by decide +kernel
theorem dX4_vapourAt_49 : decode cX4_vapourAt 49 = .ok (.idiv, 1) := by decide +kernel
theorem dX4_vapourAt_50 : decode cX4_vapourAt 50 = .ok (.istore 7, 2) := by decide +kernel
theorem dX4_vapourAt_52 : decode cX4_vapourAt 52 = .ok (.iload 6, 2) := by decide +kernel
theorem dX4_vapourAt_54 : decode cX4_vapourAt 54 = .ok (.bipush 10, 2) := by decide +kernel
theorem dX4_vapourAt_56 : decode cX4_vapourAt 56 = .ok (.iload_n 3, 1) := by decide +kernel
theorem dX4_vapourAt_57 : decode cX4_vapourAt 57 = .ok (.isub, 1) := by decide +kernel
theorem dX4_vapourAt_58 : decode cX4_vapourAt 58 = .ok (.imul, 1) := by decide +kernel
theorem dX4_vapourAt_59 : decode cX4_vapourAt 59 = .ok (.iload 7, 2) := by decide +kernel
theorem dX4_vapourAt_61 : decode cX4_vapourAt 61 = .ok (.iload_n 3, 1) := by decide +kernel
theorem dX4_vapourAt_62 : decode cX4_vapourAt 62 = .ok (.imul, 1) := by decide +kernel
theorem dX4_vapourAt_63 : decode cX4_vapourAt 63 = .ok (.iadd, 1) := by decide +kernel
theorem dX4_vapourAt_64 : decode cX4_vapourAt 64 = .ok (.bipush 10, 2) := by decide +kernel
theorem dX4_vapourAt_66 : decode cX4_vapourAt 66 = .ok (.idiv, 1) := by decide +kernel
theorem dX4_vapourAt_67 : decode cX4_vapourAt 67 = .ok (.ireturn, 1) := by decide +kernel
theorem dX4_steamAt_0 : decode cX4_steamAt 0 = .ok (.iconst 0, 1) := by decide +kernel
theorem dX4_steamAt_1 : decode cX4_steamAt 1 = .ok (.iload_n 0, 1) := by decide +kernel
theorem dX4_steamAt_2 : decode cX4_steamAt 2 = .ok (.invokestatic 73, 3) := by decide +kernel
theorem dX4_steamAt_5 : decode cX4_steamAt 5 = .ok (.iload_n 2, 1) := by decide +kernel
theorem dX4_steamAt_6 : decode cX4_steamAt 6 = .ok (.isub, 1) := by decide +kernel
theorem dX4_steamAt_7 : decode cX4_steamAt 7 = .ok (.invokestatic 158, 3) := by decide +kernel
theorem dX4_steamAt_10 : decode cX4_steamAt 10 = .ok (.bipush 10, 2) := by decide +kernel
theorem dX4_steamAt_12 : decode cX4_steamAt 12 = .ok (.imul, 1) := by decide +kernel
theorem dX4_steamAt_13 : decode cX4_steamAt 13 = .ok (.iload_n 1, 1) := by decide +kernel
theorem dX4_steamAt_14 : decode cX4_steamAt 14 = .ok (.invokestatic 152, 3) := by decide +kernel
theorem dX4_steamAt_17 : decode cX4_steamAt 17 = .ok (.ireturn, 1) := by decide +kernel
end
section
theorem dX5_init_0 : decode cX5_init 0 = .ok (.aload_n 0, 1) := by decide +kernel
theorem dX5_init_1 : decode cX5_init 1 = .ok (.invokespecial 1, 3) := by decide +kernel
theorem dX5_init_4 : decode cX5_init 4 = .ok (.aload_n 0, 1) := by decide +kernel
theorem dX5_init_5 : decode cX5_init 5 = .ok (.iconst 2, 1) := by decide +kernel
theorem dX5_init_6 : decode cX5_init 6 = .ok (.putfield 7, 3) := by decide +kernel
theorem dX5_init_9 : decode cX5_init 9 = .ok (.aload_n 0, 1) := by decide +kernel
theorem dX5_init_10 : decode cX5_init 10 = .ok (.iconst 3, 1) := by decide +kernel
theorem dX5_init_11 : decode cX5_init 11 = .ok (.putfield 13, 3) := by decide +kernel
theorem dX5_init_14 : decode cX5_init 14 = .ok (.aload_n 0, 1) := by decide +kernel
theorem dX5_init_15 : decode cX5_init 15 = .ok (.bipush 11, 2) := by decide +kernel
theorem dX5_init_17 : decode cX5_init 17 = .ok (.newarray .int, 2) := by decide +kernel
theorem dX5_init_19 : decode cX5_init 19 = .ok (.putfield 16, 3) := by decide +kernel
theorem dX5_init_22 : decode cX5_init 22 = .ok (.aload_n 0, 1) := by decide +kernel
theorem dX5_init_23 : decode cX5_init 23 = .ok (.sipush (-400), 3) := by decide +kernel
theorem dX5_init_26 : decode cX5_init 26 = .ok (.putfield 20, 3) := by decide +kernel
theorem dX5_init_29 : decode cX5_init 29 = .ok (.aload_n 0, 1) := by decide +kernel
theorem dX5_init_30 : decode cX5_init 30 = .ok (.bipush 100, 2) := by decide +kernel
theorem dX5_init_32 : decode cX5_init 32 = .ok (.putfield 23, 3) := by decide +kernel
theorem dX5_init_35 : decode cX5_init 35 = .ok (.aload_n 0, 1) := by decide +kernel
theorem dX5_init_36 : decode cX5_init 36 = .ok (.bipush 48, 2) := by decide +kernel
theorem dX5_init_38 : decode cX5_init 38 = .ok (.newarray .int, 2) := by decide +kernel
theorem dX5_init_40 : decode cX5_init 40 = .ok (.putfield 26, 3) := by decide +kernel
theorem dX5_init_43 : decode cX5_init 43 = .ok (.aload_n 0, 1) := by decide +kernel
theorem dX5_init_44 : decode cX5_init 44 = .ok (.bipush 48, 2) := by decide +kernel
theorem dX5_init_46 : decode cX5_init 46 = .ok (.newarray .int, 2) := by decide +kernel
theorem dX5_init_48 : decode cX5_init 48 = .ok (.putfield 29, 3) := by decide +kernel
theorem dX5_init_51 : decode cX5_init 51 = .ok (.aload_n 0, 1) := by decide +kernel
theorem dX5_init_52 : decode cX5_init 52 = .ok (.bipush 48, 2) := by decide +kernel
theorem dX5_init_54 : decode cX5_init 54 = .ok (.newarray .int, 2) := by decide +kernel
theorem dX5_init_56 : decode cX5_init 56 = .ok (.putfield 32, 3) := by decide +kernel
theorem dX5_init_59 : decode cX5_init 59 = .ok (.aload_n 0, 1) := by decide +kernel
theorem dX5_init_60 : decode cX5_init 60 = .ok (.bipush 48, 2) := by decide +kernel
theorem dX5_init_62 : decode cX5_init 62 = .ok (.newarray .int, 2) := by decide +kernel
theorem dX5_init_64 : decode cX5_init 64 = .ok (.putfield 35, 3) := by decide +kernel
theorem dX5_init_67 : decode cX5_init 67 = .ok (.aload_n 0, 1) := by decide +kernel
theorem dX5_init_68 : decode cX5_init 68 = .ok (.bipush 48, 2) := by decide +kernel
theorem dX5_init_70 : decode cX5_init 70 = .ok (.newarray .int, 2) := by decide +kernel
theorem dX5_init_72 : decode cX5_init 72 = .ok (.putfield 38, 3) := by decide +kernel
theorem dX5_init_75 : decode cX5_init 75 = .ok (.aload_n 0, 1) := by decide +kernel
theorem dX5_init_76 : decode cX5_init 76 = .ok (.iconst 2, 1) := by decide +kernel
theorem dX5_init_77 : decode cX5_init 77 = .ok (.newarray .int, 2) := by decide +kernel
theorem dX5_init_79 : decode cX5_init 79 = .ok (.putfield 41, 3) := by decide +kernel
theorem dX5_init_82 : decode cX5_init 82 = .ok (.aload_n 0, 1) := by decide +kernel
theorem dX5_init_83 : decode cX5_init 83 = .ok (.iconst 2, 1) := by decide +kernel
theorem dX5_init_84 : decode cX5_init 84 = .ok (.newarray .int, 2) := by decide +kernel
theorem dX5_init_86 : decode cX5_init 86 = .ok (.putfield 44, 3) := by decide +kernel
theorem dX5_init_89 : decode cX5_init 89 = .ok (.aload_n 0, 1) := by decide +kernel
theorem dX5_init_90 : decode cX5_init 90 = .ok (.iconst 2, 1) := by decide +kernel
theorem dX5_init_91 : decode cX5_init 91 = .ok (.newarray .int, 2) := by decide +kernel
theorem dX5_init_93 : decode cX5_init 93 = .ok (.putfield 47, 3) := by decide +kernel
theorem dX5_init_96 : decode cX5_init 96 = .ok (.aload_n 0, 1) := by decide +kernel
theorem dX5_init_97 : decode cX5_init 97 = .ok (.iconst 2, 1) := by decide +kernel
theorem dX5_init_98 : decode cX5_init 98 = .ok (.newarray .int, 2) := by decide +kernel
theorem dX5_init_100 : decode cX5_init 100 = .ok (.putfield 50, 3) := by decide +kernel
theorem dX5_init_103 : decode cX5_init 103 = .ok (.aload_n 0, 1) := by decide +kernel
theorem dX5_init_104 : decode cX5_init 104 = .ok (.iconst 2, 1) := by decide +kernel
theorem dX5_init_105 : decode cX5_init 105 = .ok (.newarray .int, 2) := by decide +kernel
theorem dX5_init_107 : decode cX5_init 107 = .ok (.putfield 53, 3) := by decide +kernel
theorem dX5_init_110 : decode cX5_init 110 = .ok (.aload_n 0, 1) := by decide +kernel
theorem dX5_init_111 : decode cX5_init 111 = .ok (.sipush 2001, 3) := by decide +kernel
theorem dX5_init_114 : decode cX5_init 114 = .ok (.newarray .int, 2) := by decide +kernel
theorem dX5_init_116 : decode cX5_init 116 = .ok (.putfield 56, 3) := by decide +kernel
theorem dX5_init_119 : decode cX5_init 119 = .ok (.aload_n 0, 1) := by decide +kernel
theorem dX5_init_120 : decode cX5_init 120 = .ok (.sipush 2001, 3) := by decide +kernel
theorem dX5_init_123 : decode cX5_init 123 = .ok (.newarray .int, 2) := by decide +kernel
theorem dX5_init_125 : decode cX5_init 125 = .ok (.putfield 59, 3) := by decide +kernel
theorem dX5_init_128 : decode cX5_init 128 = .ok (.aload_n 0, 1) := by decide +kernel
theorem dX5_init_129 : decode cX5_init 129 = .ok (.sipush 2001, 3) := by decide +kernel
theorem dX5_init_132 : decode cX5_init 132 = .ok (.newarray .int, 2) := by decide +kernel
theorem dX5_init_134 : decode cX5_init 134 = .ok (.putfield 62, 3) := by decide +kernel
theorem dX5_init_137 : decode cX5_init 137 = .ok (.aload_n 0, 1) := by decide +kernel
theorem dX5_init_138 : decode cX5_init 138 = .ok (.iconst 5, 1) := by decide +kernel
theorem dX5_init_139 : decode cX5_init 139 = .ok (.newarray .int, 2) := by decide +kernel
theorem dX5_init_141 : decode cX5_init 141 = .ok (.putfield 65, 3) := by decide +kernel
theorem dX5_init_144 : decode cX5_init 144 = .ok (.aload_n 0, 1) := by decide +kernel
theorem dX5_init_145 : decode cX5_init 145 = .ok (.getfield 16, 3) := by decide +kernel
theorem dX5_init_148 : decode cX5_init 148 = .ok (.iconst 0, 1) := by decide +kernel
theorem dX5_init_149 : decode cX5_init 149 = .ok (.sipush 1000, 3) := by decide +kernel
theorem dX5_init_152 : decode cX5_init 152 = .ok (.iastore, 1) := by decide +kernel
theorem dX5_init_153 : decode cX5_init 153 = .ok (.aload_n 0, 1) := by decide +kernel
theorem dX5_init_154 : decode cX5_init 154 = .ok (.getfield 16, 3) := by decide +kernel
theorem dX5_init_157 : decode cX5_init 157 = .ok (.iconst 1, 1) := by decide +kernel
theorem dX5_init_158 : decode cX5_init 158 = .ok (.bipush 10, 2) := by decide +kernel
theorem dX5_init_160 : decode cX5_init 160 = .ok (.iastore, 1) := by decide +kernel
theorem dX5_init_161 : decode cX5_init 161 = .ok (.aload_n 0, 1) := by decide +kernel
theorem dX5_init_162 : decode cX5_init 162 = .ok (.getfield 16, 3) := by decide +kernel
theorem dX5_init_165 : decode cX5_init 165 = .ok (.iconst 2, 1) := by decide +kernel
theorem dX5_init_166 : decode cX5_init 166 = .ok (.iconst 3, 1) := by decide +kernel
theorem dX5_init_167 : decode cX5_init 167 = .ok (.iastore, 1) := by decide +kernel
theorem dX5_init_168 : decode cX5_init 168 = .ok (.aload_n 0, 1) := by decide +kernel
theorem dX5_init_169 : decode cX5_init 169 = .ok (.getfield 16, 3) := by decide +kernel
theorem dX5_init_172 : decode cX5_init 172 = .ok (.iconst 3, 1) := by decide +kernel
theorem dX5_init_173 : decode cX5_init 173 = .ok (.bipush 20, 2) := by decide +kernel
theorem dX5_init_175 : decode cX5_init 175 = .ok (.iastore, 1) := by decide +kernel
theorem dX5_init_176 : decode cX5_init 176 = .ok (.aload_n 0, 1) := by decide +kernel
theorem dX5_init_177 : decode cX5_init 177 = .ok (.getfield 16, 3) := by decide +kernel
theorem dX5_init_180 : decode cX5_init 180 = .ok (.iconst 4, 1) := by decide +kernel
theorem dX5_init_181 : decode cX5_init 181 = .ok (.bipush 100, 2) := by decide +kernel
theorem dX5_init_183 : decode cX5_init 183 = .ok (.iastore, 1) := by decide +kernel
theorem dX5_init_184 : decode cX5_init 184 = .ok (.aload_n 0, 1) := by decide +kernel
theorem dX5_init_185 : decode cX5_init 185 = .ok (.getfield 16, 3) := by decide +kernel
theorem dX5_init_188 : decode cX5_init 188 = .ok (.iconst 5, 1) := by decide +kernel
theorem dX5_init_189 : decode cX5_init 189 = .ok (.iconst 5, 1) := by decide +kernel
theorem dX5_init_190 : decode cX5_init 190 = .ok (.iastore, 1) := by decide +kernel
theorem dX5_init_191 : decode cX5_init 191 = .ok (.aload_n 0, 1) := by decide +kernel
theorem dX5_init_192 : decode cX5_init 192 = .ok (.getfield 16, 3) := by decide +kernel
theorem dX5_init_195 : decode cX5_init 195 = .ok (.bipush 6, 2) := by decide +kernel
theorem dX5_init_197 : decode cX5_init 197 = .ok (.sipush (-200), 3) := by decide +kernel
theorem dX5_init_200 : decode cX5_init 200 = .ok (.iastore, 1) := by decide +kernel
theorem dX5_init_201 : decode cX5_init 201 = .ok (.aload_n 0, 1) := by decide +kernel
theorem dX5_init_202 : decode cX5_init 202 = .ok (.getfield 16, 3) := by decide +kernel
theorem dX5_init_205 : decode cX5_init 205 = .ok (.bipush 7, 2) := by decide +kernel
theorem dX5_init_207 : decode cX5_init 207 = .ok (.sipush 300, 3) := by decide +kernel
theorem dX5_init_210 : decode cX5_init 210 = .ok (.iastore, 1) := by decide +kernel
theorem dX5_init_211 : decode cX5_init 211 = .ok (.aload_n 0, 1) := by decide +kernel
theorem dX5_init_212 : decode cX5_init 212 = .ok (.getfield 16, 3) := by decide +kernel
theorem dX5_init_215 : decode cX5_init 215 = .ok (.bipush 8, 2) := by decide +kernel
theorem dX5_init_217 : decode cX5_init 217 = .ok (.iconst 5, 1) := by decide +kernel
theorem dX5_init_218 : decode cX5_init 218 = .ok (.iastore, 1) := by decide +kernel
theorem dX5_init_219 : decode cX5_init 219 = .ok (.aload_n 0, 1) := by decide +kernel
theorem dX5_init_220 : decode cX5_init 220 = .ok (.getfield 16, 3) := by decide +kernel
theorem dX5_init_223 : decode cX5_init 223 = .ok (.bipush 9, 2) := by decide +kernel
theorem dX5_init_225 : decode cX5_init 225 = .ok (.bipush 20, 2) := by decide +kernel
theorem dX5_init_227 : decode cX5_init 227 = .ok (.iastore, 1) := by decide +kernel
theorem dX5_init_228 : decode cX5_init 228 = .ok (.aload_n 0, 1) := by decide +kernel
theorem dX5_init_229 : decode cX5_init 229 = .ok (.getfield 16, 3) := by decide +kernel
theorem dX5_init_232 : decode cX5_init 232 = .ok (.bipush 10, 2) := by decide +kernel
theorem dX5_init_234 : decode cX5_init 234 = .ok (.bipush 10, 2) := by decide +kernel
theorem dX5_init_236 : decode cX5_init 236 = .ok (.iastore, 1) := by decide +kernel
theorem dX5_init_237 : decode cX5_init 237 = .ok (.return_, 1) := by decide +kernel
theorem dX5_in_0 : decode cX5_in 0 = .ok (.lload_n 0, 1) := by decide +kernel
theorem dX5_in_1 : decode cX5_in 1 = .ok (.lload_n 2, 1) := by decide +kernel
theorem dX5_in_2 : decode cX5_in 2 = .ok (.lcmp, 1) := by decide +kernel
theorem dX5_in_3 : decode cX5_in 3 = .ok (.ifCond .lt 14, 3) := by decide +kernel
theorem dX5_in_6 : decode cX5_in 6 = .ok (.lload_n 0, 1) := by decide +kernel
theorem dX5_in_7 : decode cX5_in 7 = .ok (.lload 4, 2) := by decide +kernel
theorem dX5_in_9 : decode cX5_in 9 = .ok (.lcmp, 1) := by decide +kernel
theorem dX5_in_10 : decode cX5_in 10 = .ok (.ifCond .gt 7, 3) := by decide +kernel
theorem dX5_in_13 : decode cX5_in 13 = .ok (.iconst 1, 1) := by decide +kernel
theorem dX5_in_14 : decode cX5_in 14 = .ok (.goto 4, 3) := by decide +kernel
theorem dX5_in_17 : decode cX5_in 17 = .ok (.iconst 0, 1) := by decide +kernel
theorem dX5_in_18 : decode cX5_in 18 = .ok (.ireturn, 1) := by decide +kernel
theorem dX5_vials_0 : decode cX5_vials 0 = .ok (.aload_n 0, 1) := by decide +kernel
theorem dX5_vials_1 : decode cX5_vials 1 = .ok (.getfield 7, 3) := by decide +kernel
theorem dX5_vials_4 : decode cX5_vials 4 = .ok (.aload_n 0, 1) := by decide +kernel
theorem dX5_vials_5 : decode cX5_vials 5 = .ok (.getfield 13, 3) := by decide +kernel
theorem dX5_vials_8 : decode cX5_vials 8 = .ok (.imul, 1) := by decide +kernel
theorem dX5_vials_9 : decode cX5_vials 9 = .ok (.ireturn, 1) := by decide +kernel
theorem dX5_shelf_0 : decode cX5_shelf 0 = .ok (.iload_n 1, 1) := by decide +kernel
theorem dX5_shelf_1 : decode cX5_shelf 1 = .ok (.i2l, 1) := by decide +kernel
theorem dX5_shelf_2 : decode cX5_shelf 2 = .ok (.lconst 1, 1) := by decide +kernel
theorem dX5_shelf_3 : decode cX5_shelf 3 = .ok (.ldc2_w 68, 3) := by decide +kernel
theorem dX5_shelf_6 : decode cX5_shelf 6 = .ok (.invokestatic 70, 3) := by decide +kernel
theorem dX5_shelf_9 : decode cX5_shelf 9 = .ok (.ifCond .eq 15, 3) := by decide +kernel
theorem dX5_shelf_12 : decode cX5_shelf 12 = .ok (.iload_n 2, 1) := by decide +kernel
theorem dX5_shelf_13 : decode cX5_shelf 13 = .ok (.i2l, 1) := by decide +kernel
theorem dX5_shelf_14 : decode cX5_shelf 14 = .ok (.lconst 1, 1) := by decide +kernel
theorem dX5_shelf_15 : decode cX5_shelf 15 = .ok (.ldc2_w 74, 3) := by decide +kernel
theorem dX5_shelf_18 : decode cX5_shelf 18 = .ok (.invokestatic 70, 3) := by decide +kernel
theorem dX5_shelf_21 : decode cX5_shelf 21 = .ok (.ifCond .ne 6, 3) := by decide +kernel
theorem dX5_shelf_24 : decode cX5_shelf 24 = .ok (.bipush (-2), 2) := by decide +kernel
theorem dX5_shelf_26 : decode cX5_shelf 26 = .ok (.ireturn, 1) := by decide +kernel
theorem dX5_shelf_27 : decode cX5_shelf 27 = .ok (.aload_n 0, 1) := by decide +kernel
theorem dX5_shelf_28 : decode cX5_shelf 28 = .ok (.getfield 76, 3) := by decide +kernel
theorem dX5_shelf_31 : decode cX5_shelf 31 = .ok (.ifCond .eq 6, 3) := by decide +kernel
theorem dX5_shelf_34 : decode cX5_shelf 34 = .ok (.bipush (-3), 2) := by decide +kernel
theorem dX5_shelf_36 : decode cX5_shelf 36 = .ok (.ireturn, 1) := by decide +kernel
theorem dX5_shelf_37 : decode cX5_shelf 37 = .ok (.aload_n 0, 1) := by decide +kernel
theorem dX5_shelf_38 : decode cX5_shelf 38 = .ok (.iload_n 1, 1) := by decide +kernel
theorem dX5_shelf_39 : decode cX5_shelf 39 = .ok (.putfield 7, 3) := by decide +kernel
theorem dX5_shelf_42 : decode cX5_shelf 42 = .ok (.aload_n 0, 1) := by decide +kernel
theorem dX5_shelf_43 : decode cX5_shelf 43 = .ok (.iload_n 2, 1) := by decide +kernel
theorem dX5_shelf_44 : decode cX5_shelf 44 = .ok (.putfield 13, 3) := by decide +kernel
theorem dX5_shelf_47 : decode cX5_shelf 47 = .ok (.aload_n 0, 1) := by decide +kernel
theorem dX5_shelf_48 : decode cX5_shelf 48 = .ok (.invokevirtual 80, 3) := by decide +kernel
theorem dX5_shelf_51 : decode cX5_shelf 51 = .ok (.ireturn, 1) := by decide +kernel
theorem dX5_leastOf_0 : decode cX5_leastOf 0 = .ok (.iload_n 0, 1) := by decide +kernel
theorem dX5_leastOf_1 : decode cX5_leastOf 1 = .ok (.tableswitch 57 0 6 #[43, 57, 53, 57, 46, 55, 49], 43) := by decide +kernel
theorem dX5_leastOf_44 : decode cX5_leastOf 44 = .ok (.bipush 100, 2) := by decide +kernel
theorem dX5_leastOf_46 : decode cX5_leastOf 46 = .ok (.ireturn, 1) := by decide +kernel
theorem dX5_leastOf_47 : decode cX5_leastOf 47 = .ok (.bipush 10, 2) := by decide +kernel
theorem dX5_leastOf_49 : decode cX5_leastOf 49 = .ok (.ireturn, 1) := by decide +kernel
theorem dX5_leastOf_50 : decode cX5_leastOf 50 = .ok (.sipush (-600), 3) := by decide +kernel
theorem dX5_leastOf_53 : decode cX5_leastOf 53 = .ok (.ireturn, 1) := by decide +kernel
theorem dX5_leastOf_54 : decode cX5_leastOf 54 = .ok (.iconst 0, 1) := by decide +kernel
theorem dX5_leastOf_55 : decode cX5_leastOf 55 = .ok (.ireturn, 1) := by decide +kernel
theorem dX5_leastOf_56 : decode cX5_leastOf 56 = .ok (.iconst 0, 1) := by decide +kernel
theorem dX5_leastOf_57 : decode cX5_leastOf 57 = .ok (.ireturn, 1) := by decide +kernel
theorem dX5_leastOf_58 : decode cX5_leastOf 58 = .ok (.iconst 1, 1) := by decide +kernel
theorem dX5_leastOf_59 : decode cX5_leastOf 59 = .ok (.ireturn, 1) := by decide +kernel
theorem dX5_mostOf_0 : decode cX5_mostOf 0 = .ok (.iload_n 0, 1) := by decide +kernel
theorem dX5_mostOf_1 : decode cX5_mostOf 1 = .ok (.tableswitch 84 0 10 #[59, 84, 84, 84, 63, 84, 67, 69, 73, 76, 80], 59) := by decide +kernel
theorem dX5_mostOf_60 : decode cX5_mostOf 60 = .ok (.sipush 5000, 3) := by decide +kernel
theorem dX5_mostOf_63 : decode cX5_mostOf 63 = .ok (.ireturn, 1) := by decide +kernel
theorem dX5_mostOf_64 : decode cX5_mostOf 64 = .ok (.sipush 1000, 3) := by decide +kernel
theorem dX5_mostOf_67 : decode cX5_mostOf 67 = .ok (.ireturn, 1) := by decide +kernel
theorem dX5_mostOf_68 : decode cX5_mostOf 68 = .ok (.iconst 0, 1) := by decide +kernel
theorem dX5_mostOf_69 : decode cX5_mostOf 69 = .ok (.ireturn, 1) := by decide +kernel
theorem dX5_mostOf_70 : decode cX5_mostOf 70 = .ok (.sipush 10000, 3) := by decide +kernel
theorem dX5_mostOf_73 : decode cX5_mostOf 73 = .ok (.ireturn, 1) := by decide +kernel
theorem dX5_mostOf_74 : decode cX5_mostOf 74 = .ok (.bipush 100, 2) := by decide +kernel
theorem dX5_mostOf_76 : decode cX5_mostOf 76 = .ok (.ireturn, 1) := by decide +kernel
theorem dX5_mostOf_77 : decode cX5_mostOf 77 = .ok (.sipush 500, 3) := by decide +kernel
theorem dX5_mostOf_80 : decode cX5_mostOf 80 = .ok (.ireturn, 1) := by decide +kernel
theorem dX5_mostOf_81 : decode cX5_mostOf 81 = .ok (.sipush 1000, 3) := by decide +kernel
theorem dX5_mostOf_84 : decode cX5_mostOf 84 = .ok (.ireturn, 1) := by decide +kernel
theorem dX5_mostOf_85 : decode cX5_mostOf 85 = .ok (.bipush 50, 2) := by decide +kernel
theorem dX5_mostOf_87 : decode cX5_mostOf 87 = .ok (.ireturn, 1) := by decide +kernel
theorem dX5_rule_0 : decode cX5_rule 0 = .ok (.iload_n 1, 1) := by decide +kernel
theorem dX5_rule_1 : decode cX5_rule 1 = .ok (.i2l, 1) := by decide +kernel
theorem dX5_rule_2 : decode cX5_rule 2 = .ok (.lconst 0, 1) := by decide +kernel
theorem dX5_rule_3 : decode cX5_rule 3 = .ok (.ldc2_w 84, 3) := by decide +kernel
theorem dX5_rule_6 : decode cX5_rule 6 = .ok (.invokestatic 70, 3) := by decide +kernel
theorem dX5_rule_9 : decode cX5_rule 9 = .ok (.ifCond .ne 7, 3) := by decide +kernel
theorem dX5_rule_12 : decode cX5_rule 12 = .ok (.sipush (-10001), 3) := by decide +kernel
theorem dX5_rule_15 : decode cX5_rule 15 = .ok (.ireturn, 1) := by decide +kernel
theorem dX5_rule_16 : decode cX5_rule 16 = .ok (.iload_n 2, 1) := by decide +kernel
theorem dX5_rule_17 : decode cX5_rule 17 = .ok (.i2l, 1) := by decide +kernel
theorem dX5_rule_18 : decode cX5_rule 18 = .ok (.iload_n 1, 1) := by decide +kernel
theorem dX5_rule_19 : decode cX5_rule 19 = .ok (.invokestatic 86, 3) := by decide +kernel
theorem dX5_rule_22 : decode cX5_rule 22 = .ok (.i2l, 1) := by decide +kernel
theorem dX5_rule_23 : decode cX5_rule 23 = .ok (.iload_n 1, 1) := by decide +kernel
theorem dX5_rule_24 : decode cX5_rule 24 = .ok (.invokestatic 90, 3) := by decide +kernel
theorem dX5_rule_27 : decode cX5_rule 27 = .ok (.i2l, 1) := by decide +kernel
theorem dX5_rule_28 : decode cX5_rule 28 = .ok (.invokestatic 70, 3) := by decide +kernel
theorem dX5_rule_31 : decode cX5_rule 31 = .ok (.ifCond .ne 7, 3) := by decide +kernel
theorem dX5_rule_34 : decode cX5_rule 34 = .ok (.sipush (-10002), 3) := by decide +kernel
theorem dX5_rule_37 : decode cX5_rule 37 = .ok (.ireturn, 1) := by decide +kernel
theorem dX5_rule_38 : decode cX5_rule 38 = .ok (.aload_n 0, 1) := by decide +kernel
theorem dX5_rule_39 : decode cX5_rule 39 = .ok (.getfield 76, 3) := by decide +kernel
theorem dX5_rule_42 : decode cX5_rule 42 = .ok (.ifCond .eq 7, 3) := by decide +kernel
theorem dX5_rule_45 : decode cX5_rule 45 = .ok (.sipush (-10003), 3) := by decide +kernel
theorem dX5_rule_48 : decode cX5_rule 48 = .ok (.ireturn, 1) := by decide +kernel
theorem dX5_rule_49 : decode cX5_rule 49 = .ok (.aload_n 0, 1) := by decide +kernel
theorem dX5_rule_50 : decode cX5_rule 50 = .ok (.getfield 16, 3) := by decide +kernel
theorem dX5_rule_53 : decode cX5_rule 53 = .ok (.iload_n 1, 1) := by decide +kernel
theorem dX5_rule_54 : decode cX5_rule 54 = .ok (.iaload, 1) := by decide +kernel
theorem dX5_rule_55 : decode cX5_rule 55 = .ok (.istore_n 3, 1) := by decide +kernel
theorem dX5_rule_56 : decode cX5_rule 56 = .ok (.aload_n 0, 1) := by decide +kernel
theorem dX5_rule_57 : decode cX5_rule 57 = .ok (.getfield 16, 3) := by decide +kernel
theorem dX5_rule_60 : decode cX5_rule 60 = .ok (.iload_n 1, 1) := by decide +kernel
theorem dX5_rule_61 : decode cX5_rule 61 = .ok (.iload_n 2, 1) := by decide +kernel
theorem dX5_rule_62 : decode cX5_rule 62 = .ok (.iastore, 1) := by decide +kernel
theorem dX5_rule_63 : decode cX5_rule 63 = .ok (.iload_n 3, 1) := by decide +kernel
theorem dX5_rule_64 : decode cX5_rule 64 = .ok (.ireturn, 1) := by decide +kernel
theorem dX5_bend_0 : decode cX5_bend 0 = .ok (.iload_n 0, 1) := by decide +kernel
theorem dX5_bend_1 : decode cX5_bend 1 = .ok (.iconst 2, 1) := by decide +kernel
theorem dX5_bend_2 : decode cX5_bend 2 = .ok (.iadd, 1) := by decide +kernel
theorem dX5_bend_3 : decode cX5_bend 3 = .ok (.iload_n 0, 1) := by decide +kernel
theorem dX5_bend_4 : decode cX5_bend 4 = .ok (.iconst 2, 1) := by decide +kernel
theorem dX5_bend_5 : decode cX5_bend 5 = .ok (.iadd, 1) := by decide +kernel
theorem dX5_bend_6 : decode cX5_bend 6 = .ok (.imul, 1) := by decide +kernel
theorem dX5_bend_7 : decode cX5_bend 7 = .ok (.iload_n 0, 1) := by decide +kernel
theorem dX5_bend_8 : decode cX5_bend 8 = .ok (.iconst 2, 1) := by decide +kernel
theorem dX5_bend_9 : decode cX5_bend 9 = .ok (.iadd, 1) := by decide +kernel
theorem dX5_bend_10 : decode cX5_bend 10 = .ok (.imul, 1) := by decide +kernel
theorem dX5_bend_11 : decode cX5_bend 11 = .ok (.bipush 20, 2) := by decide +kernel
theorem dX5_bend_13 : decode cX5_bend 13 = .ok (.idiv, 1) := by decide +kernel
theorem dX5_bend_14 : decode cX5_bend 14 = .ok (.ireturn, 1) := by decide +kernel
theorem dX5_vapourAt_0 : decode cX5_vapourAt 0 = .ok (.iload_n 0, 1) := by decide +kernel
theorem dX5_vapourAt_1 : decode cX5_vapourAt 1 = .ok (.sipush (-600), 3) := by decide +kernel
theorem dX5_vapourAt_4 : decode cX5_vapourAt 4 = .ok (.isub, 1) := by decide +kernel
theorem dX5_vapourAt_5 : decode cX5_vapourAt 5 = .ok (.bipush 10, 2) := by decide +kernel
theorem dX5_vapourAt_7 : decode cX5_vapourAt 7 = .ok (.idiv, 1) := by decide +kernel
theorem dX5_vapourAt_8 : decode cX5_vapourAt 8 = .ok (.istore_n 1, 1) := by decide +kernel
theorem dX5_vapourAt_9 : decode cX5_vapourAt 9 = .ok (.iload_n 0, 1) := by decide +kernel
theorem dX5_vapourAt_10 : decode cX5_vapourAt 10 = .ok (.sipush (-600), 3) := by decide +kernel
theorem dX5_vapourAt_13 : decode cX5_vapourAt 13 = .ok (.isub, 1) := by decide +kernel
theorem dX5_vapourAt_14 : decode cX5_vapourAt 14 = .ok (.bipush 10, 2) := by decide +kernel
theorem dX5_vapourAt_16 : decode cX5_vapourAt 16 = .ok (.irem, 1) := by decide +kernel
theorem dX5_vapourAt_17 : decode cX5_vapourAt 17 = .ok (.istore_n 2, 1) := by decide +kernel
theorem dX5_vapourAt_18 : decode cX5_vapourAt 18 = .ok (.iload_n 1, 1) := by decide +kernel
theorem dX5_vapourAt_19 : decode cX5_vapourAt 19 = .ok (.invokestatic 93, 3) := by decide +kernel
theorem dX5_vapourAt_22 : decode cX5_vapourAt 22 = .ok (.bipush 10, 2) := by decide +kernel
theorem dX5_vapourAt_24 : decode cX5_vapourAt 24 = .ok (.iload_n 2, 1) := by decide +kernel
theorem dX5_vapourAt_25 : decode cX5_vapourAt 25 = .ok (.isub, 1) := by decide +kernel
theorem dX5_vapourAt_26 : decode cX5_vapourAt 26 = .ok (.imul, 1) := by decide +kernel
theorem dX5_vapourAt_27 : decode cX5_vapourAt 27 = .ok (.iload_n 1, 1) := by decide +kernel
theorem dX5_vapourAt_28 : decode cX5_vapourAt 28 = .ok (.iconst 1, 1) := by decide +kernel
theorem dX5_vapourAt_29 : decode cX5_vapourAt 29 = .ok (.iadd, 1) := by decide +kernel
theorem dX5_vapourAt_30 : decode cX5_vapourAt 30 = .ok (.invokestatic 93, 3) := by decide +kernel
theorem dX5_vapourAt_33 : decode cX5_vapourAt 33 = .ok (.iload_n 2, 1) := by decide +kernel
theorem dX5_vapourAt_34 : decode cX5_vapourAt 34 = .ok (.imul, 1) := by decide +kernel
theorem dX5_vapourAt_35 : decode cX5_vapourAt 35 = .ok (.iadd, 1) := by decide +kernel
theorem dX5_vapourAt_36 : decode cX5_vapourAt 36 = .ok (.bipush 10, 2) := by decide +kernel
theorem dX5_vapourAt_38 : decode cX5_vapourAt 38 = .ok (.idiv, 1) := by decide +kernel
theorem dX5_vapourAt_39 : decode cX5_vapourAt 39 = .ok (.ireturn, 1) := by decide +kernel
theorem dX5_vapour_0 : decode cX5_vapour 0 = .ok (.iload_n 1, 1) := by decide +kernel
theorem dX5_vapour_1 : decode cX5_vapour 1 = .ok (.i2l, 1) := by decide +kernel
theorem dX5_vapour_2 : decode cX5_vapour 2 = .ok (.ldc2_w 96, 3) := by decide +kernel
theorem dX5_vapour_5 : decode cX5_vapour 5 = .ok (.lconst 0, 1) := by decide +kernel
theorem dX5_vapour_6 : decode cX5_vapour 6 = .ok (.invokestatic 70, 3) := by decide +kernel
theorem dX5_vapour_9 : decode cX5_vapour 9 = .ok (.ifCond .eq 10, 3) := by decide +kernel
theorem dX5_vapour_12 : decode cX5_vapour 12 = .ok (.iload_n 1, 1) := by decide +kernel
theorem dX5_vapour_13 : decode cX5_vapour 13 = .ok (.invokestatic 98, 3) := by decide +kernel
theorem dX5_vapour_16 : decode cX5_vapour 16 = .ok (.goto 5, 3) := by decide +kernel
theorem dX5_vapour_19 : decode cX5_vapour 19 = .ok (.bipush (-2), 2) := by decide +kernel
theorem dX5_vapour_21 : decode cX5_vapour 21 = .ok (.ireturn, 1) := by decide +kernel
theorem dX5_steamAt_0 : decode cX5_steamAt 0 = .ok (.iload_n 1, 1) := by decide +kernel
theorem dX5_steamAt_1 : decode cX5_steamAt 1 = .ok (.invokestatic 98, 3) := by decide +kernel
theorem dX5_steamAt_4 : decode cX5_steamAt 4 = .ok (.iload_n 3, 1) := by decide +kernel
theorem dX5_steamAt_5 : decode cX5_steamAt 5 = .ok (.isub, 1) := by decide +kernel
theorem dX5_steamAt_6 : decode cX5_steamAt 6 = .ok (.istore 4, 2) := by decide +kernel
theorem dX5_steamAt_8 : decode cX5_steamAt 8 = .ok (.iload 4, 2) := by decide +kernel
theorem dX5_steamAt_10 : decode cX5_steamAt 10 = .ok (.ifCond .ge 7, 3) := by decide +kernel
theorem dX5_steamAt_13 : decode cX5_steamAt 13 = .ok (.iconst 0, 1) := by decide +kernel
theorem dX5_steamAt_14 : decode cX5_steamAt 14 = .ok (.goto 24, 3) := by decide +kernel
theorem dX5_steamAt_17 : decode cX5_steamAt 17 = .ok (.iload 4, 2) := by decide +kernel
theorem dX5_steamAt_19 : decode cX5_steamAt 19 = .ok (.bipush 10, 2) := by decide +kernel
theorem dX5_steamAt_21 : decode cX5_steamAt 21 = .ok (.imul, 1) := by decide +kernel
theorem dX5_steamAt_22 : decode cX5_steamAt 22 = .ok (.aload_n 0, 1) := by decide +kernel
theorem dX5_steamAt_23 : decode cX5_steamAt 23 = .ok (.getfield 16, 3) := by decide +kernel
theorem dX5_steamAt_26 : decode cX5_steamAt 26 = .ok (.iconst 4, 1) := by decide +kernel
theorem dX5_steamAt_27 : decode cX5_steamAt 27 = .ok (.iaload, 1) := by decide +kernel
theorem dX5_steamAt_28 : decode cX5_steamAt 28 = .ok (.aload_n 0, 1) := by decide +kernel
theorem dX5_steamAt_29 : decode cX5_steamAt 29 = .ok (.getfield 16, 3) := by decide +kernel
theorem dX5_steamAt_32 : decode cX5_steamAt 32 = .ok (.iconst 5, 1) := by decide +kernel
theorem dX5_steamAt_33 : decode cX5_steamAt 33 = .ok (.iaload, 1) := by decide +kernel
theorem dX5_steamAt_34 : decode cX5_steamAt 34 = .ok (.iload_n 2, 1) := by decide +kernel
theorem dX5_steamAt_35 : decode cX5_steamAt 35 = .ok (.imul, 1) := by decide +kernel
theorem dX5_steamAt_36 : decode cX5_steamAt 36 = .ok (.iadd, 1) := by decide +kernel
theorem dX5_steamAt_37 : decode cX5_steamAt 37 = .ok (.idiv, 1) := by decide +kernel
theorem dX5_steamAt_38 : decode cX5_steamAt 38 = .ok (.ireturn, 1) := by decide +kernel
theorem dX5_steam_0 : decode cX5_steam 0 = .ok (.iload_n 1, 1) := by decide +kernel
theorem dX5_steam_1 : decode cX5_steam 1 = .ok (.i2l, 1) := by decide +kernel
theorem dX5_steam_2 : decode cX5_steam 2 = .ok (.ldc2_w 96, 3) := by decide +kernel
theorem dX5_steam_5 : decode cX5_steam 5 = .ok (.lconst 0, 1) := by decide +kernel
theorem dX5_steam_6 : decode cX5_steam 6 = .ok (.invokestatic 70, 3) := by decide +kernel
theorem dX5_steam_9 : decode cX5_steam 9 = .ok (.ifCond .eq 37, 3) := by decide +kernel
theorem dX5_steam_12 : decode cX5_steam 12 = .ok (.iload_n 2, 1) := by decide +kernel
theorem dX5_steam_13 : decode cX5_steam 13 = .ok (.i2l, 1) := by decide +kernel
theorem dX5_steam_14 : decode cX5_steam 14 = .ok (.lconst 0, 1) := by decide +kernel
theorem dX5_steam_15 : decode cX5_steam 15 = .ok (.ldc2_w 101, 3) := by decide +kernel
theorem dX5_steam_18 : decode cX5_steam 18 = .ok (.invokestatic 70, 3) := by decide +kernel
theorem dX5_steam_21 : decode cX5_steam 21 = .ok (.ifCond .eq 25, 3) := by decide +kernel
theorem dX5_steam_24 : decode cX5_steam 24 = .ok (.iload_n 3, 1) := by decide +kernel
theorem dX5_steam_25 : decode cX5_steam 25 = .ok (.i2l, 1) := by decide +kernel
theorem dX5_steam_26 : decode cX5_steam 26 = .ok (.lconst 0, 1) := by decide +kernel
theorem dX5_steam_27 : decode cX5_steam 27 = .ok (.ldc2_w 103, 3) := by decide +kernel
theorem dX5_steam_30 : decode cX5_steam 30 = .ok (.invokestatic 70, 3) := by decide +kernel
theorem dX5_steam_33 : decode cX5_steam 33 = .ok (.ifCond .eq 13, 3) := by decide +kernel
theorem dX5_steam_36 : decode cX5_steam 36 = .ok (.aload_n 0, 1) := by decide +kernel
theorem dX5_steam_37 : decode cX5_steam 37 = .ok (.iload_n 1, 1) := by decide +kernel
theorem dX5_steam_38 : decode cX5_steam 38 = .ok (.iload_n 2, 1) := by decide +kernel
theorem dX5_steam_39 : decode cX5_steam 39 = .ok (.iload_n 3, 1) := by decide +kernel
theorem dX5_steam_40 : decode cX5_steam 40 = .ok (.invokevirtual 105, 3) := by decide +kernel
theorem dX5_steam_43 : decode cX5_steam 43 = .ok (.goto 5, 3) := by decide +kernel
theorem dX5_steam_46 : decode cX5_steam 46 = .ok (.bipush (-2), 2) := by decide +kernel
theorem dX5_steam_48 : decode cX5_steam 48 = .ok (.ireturn, 1) := by decide +kernel
theorem dX5_isRim_0 : decode cX5_isRim 0 = .ok (.iload_n 1, 1) := by decide +kernel
theorem dX5_isRim_1 : decode cX5_isRim 1 = .ok (.aload_n 0, 1) := by decide +kernel
theorem dX5_isRim_2 : decode cX5_isRim 2 = .ok (.getfield 13, 3) := by decide +kernel
theorem dX5_isRim_5 : decode cX5_isRim 5 = .ok (.idiv, 1) := by decide +kernel
theorem dX5_isRim_6 : decode cX5_isRim 6 = .ok (.istore_n 2, 1) := by decide +kernel
theorem dX5_isRim_7 : decode cX5_isRim 7 = .ok (.iload_n 1, 1) := by decide +kernel
theorem dX5_isRim_8 : decode cX5_isRim 8 = .ok (.aload_n 0, 1) := by decide +kernel
theorem dX5_isRim_9 : decode cX5_isRim 9 = .ok (.getfield 13, 3) := by decide +kernel
theorem dX5_isRim_12 : decode cX5_isRim 12 = .ok (.irem, 1) := by decide +kernel
theorem dX5_isRim_13 : decode cX5_isRim 13 = .ok (.istore_n 3, 1) := by decide +kernel
theorem dX5_isRim_14 : decode cX5_isRim 14 = .ok (.iload_n 2, 1) := by decide +kernel
theorem dX5_isRim_15 : decode cX5_isRim 15 = .ok (.ifCond .eq 27, 3) := by decide +kernel
theorem dX5_isRim_18 : decode cX5_isRim 18 = .ok (.iload_n 3, 1) := by decide +kernel
theorem dX5_isRim_19 : decode cX5_isRim 19 = .ok (.ifCond .eq 23, 3) := by decide +kernel
theorem dX5_isRim_22 : decode cX5_isRim 22 = .ok (.iload_n 2, 1) := by decide +kernel
theorem dX5_isRim_23 : decode cX5_isRim 23 = .ok (.aload_n 0, 1) := by decide +kernel
theorem dX5_isRim_24 : decode cX5_isRim 24 = .ok (.getfield 7, 3) := by decide +kernel
theorem dX5_isRim_27 : decode cX5_isRim 27 = .ok (.iconst 1, 1) := by decide +kernel
theorem dX5_isRim_28 : decode cX5_isRim 28 = .ok (.isub, 1) := by decide +kernel
theorem dX5_isRim_29 : decode cX5_isRim 29 = .ok (.if_icmp .eq 13, 3) := by decide +kernel
theorem dX5_isRim_32 : decode cX5_isRim 32 = .ok (.iload_n 3, 1) := by decide +kernel
theorem dX5_isRim_33 : decode cX5_isRim 33 = .ok (.aload_n 0, 1) := by decide +kernel
theorem dX5_isRim_34 : decode cX5_isRim 34 = .ok (.getfield 13, 3) := by decide +kernel
theorem dX5_isRim_37 : decode cX5_isRim 37 = .ok (.iconst 1, 1) := by decide +kernel
theorem dX5_isRim_38 : decode cX5_isRim 38 = .ok (.isub, 1) := by decide +kernel
theorem dX5_isRim_39 : decode cX5_isRim 39 = .ok (.if_icmp .ne 7, 3) := by decide +kernel
theorem dX5_isRim_42 : decode cX5_isRim 42 = .ok (.iconst 1, 1) := by decide +kernel
theorem dX5_isRim_43 : decode cX5_isRim 43 = .ok (.goto 4, 3) := by decide +kernel
theorem dX5_isRim_46 : decode cX5_isRim 46 = .ok (.iconst 0, 1) := by decide +kernel
theorem dX5_isRim_47 : decode cX5_isRim 47 = .ok (.ireturn, 1) := by decide +kernel
theorem dX5_rim_0 : decode cX5_rim 0 = .ok (.iload_n 1, 1) := by decide +kernel
theorem dX5_rim_1 : decode cX5_rim 1 = .ok (.i2l, 1) := by decide +kernel
theorem dX5_rim_2 : decode cX5_rim 2 = .ok (.lconst 0, 1) := by decide +kernel
theorem dX5_rim_3 : decode cX5_rim 3 = .ok (.aload_n 0, 1) := by decide +kernel
theorem dX5_rim_4 : decode cX5_rim 4 = .ok (.invokevirtual 80, 3) := by decide +kernel
theorem dX5_rim_7 : decode cX5_rim 7 = .ok (.iconst 1, 1) := by decide +kernel
theorem dX5_rim_8 : decode cX5_rim 8 = .ok (.isub, 1) := by decide +kernel
theorem dX5_rim_9 : decode cX5_rim 9 = .ok (.i2l, 1) := by decide +kernel
theorem dX5_rim_10 : decode cX5_rim 10 = .ok (.invokestatic 70, 3) := by decide +kernel
theorem dX5_rim_13 : decode cX5_rim 13 = .ok (.ifCond .ne 7, 3) := by decide +kernel
theorem dX5_rim_16 : decode cX5_rim 16 = .ok (.iconst (-1), 1) := by decide +kernel
theorem dX5_rim_17 : decode cX5_rim 17 = .ok (.goto 16, 3) := by decide +kernel
theorem dX5_rim_20 : decode cX5_rim 20 = .ok (.aload_n 0, 1) := by decide +kernel
theorem dX5_rim_21 : decode cX5_rim 21 = .ok (.iload_n 1, 1) := by decide +kernel
theorem dX5_rim_22 : decode cX5_rim 22 = .ok (.invokevirtual 109, 3) := by decide +kernel
theorem dX5_rim_25 : decode cX5_rim 25 = .ok (.ifCond .eq 7, 3) := by decide +kernel
theorem dX5_rim_28 : decode cX5_rim 28 = .ok (.iconst 1, 1) := by decide +kernel
theorem dX5_rim_29 : decode cX5_rim 29 = .ok (.goto 4, 3) := by decide +kernel
theorem dX5_rim_32 : decode cX5_rim 32 = .ok (.iconst 0, 1) := by decide +kernel
theorem dX5_rim_33 : decode cX5_rim 33 = .ok (.ireturn, 1) := by decide +kernel
theorem dX5_fill_0 : decode cX5_fill 0 = .ok (.bipush 24, 2) := by decide +kernel
theorem dX5_fill_2 : decode cX5_fill 2 = .ok (.iload_n 1, 1) := by decide +kernel
theorem dX5_fill_3 : decode cX5_fill 3 = .ok (.imul, 1) := by decide +kernel
theorem dX5_fill_4 : decode cX5_fill 4 = .ok (.istore_n 3, 1) := by decide +kernel
theorem dX5_fill_5 : decode cX5_fill 5 = .ok (.iload_n 3, 1) := by decide +kernel
theorem dX5_fill_6 : decode cX5_fill 6 = .ok (.bipush 24, 2) := by decide +kernel
theorem dX5_fill_8 : decode cX5_fill 8 = .ok (.iload_n 1, 1) := by decide +kernel
theorem dX5_fill_9 : decode cX5_fill 9 = .ok (.imul, 1) := by decide +kernel
theorem dX5_fill_10 : decode cX5_fill 10 = .ok (.bipush 24, 2) := by decide +kernel
theorem dX5_fill_12 : decode cX5_fill 12 = .ok (.iadd, 1) := by decide +kernel
theorem dX5_fill_13 : decode cX5_fill 13 = .ok (.if_icmp .ge 52, 3) := by decide +kernel
theorem dX5_fill_16 : decode cX5_fill 16 = .ok (.aload_n 0, 1) := by decide +kernel
theorem dX5_fill_17 : decode cX5_fill 17 = .ok (.getfield 26, 3) := by decide +kernel
theorem dX5_fill_20 : decode cX5_fill 20 = .ok (.iload_n 3, 1) := by decide +kernel
theorem dX5_fill_21 : decode cX5_fill 21 = .ok (.aload_n 0, 1) := by decide +kernel
theorem dX5_fill_22 : decode cX5_fill 22 = .ok (.getfield 16, 3) := by decide +kernel
theorem dX5_fill_25 : decode cX5_fill 25 = .ok (.iconst 0, 1) := by decide +kernel
theorem dX5_fill_26 : decode cX5_fill 26 = .ok (.iaload, 1) := by decide +kernel
theorem dX5_fill_27 : decode cX5_fill 27 = .ok (.iastore, 1) := by decide +kernel
theorem dX5_fill_28 : decode cX5_fill 28 = .ok (.aload_n 0, 1) := by decide +kernel
theorem dX5_fill_29 : decode cX5_fill 29 = .ok (.getfield 29, 3) := by decide +kernel
theorem dX5_fill_32 : decode cX5_fill 32 = .ok (.iload_n 3, 1) := by decide +kernel
theorem dX5_fill_33 : decode cX5_fill 33 = .ok (.bipush (-6), 2) := by decide +kernel
theorem dX5_fill_35 : decode cX5_fill 35 = .ok (.iastore, 1) := by decide +kernel
theorem dX5_fill_36 : decode cX5_fill 36 = .ok (.aload_n 0, 1) := by decide +kernel
theorem dX5_fill_37 : decode cX5_fill 37 = .ok (.getfield 32, 3) := by decide +kernel
theorem dX5_fill_40 : decode cX5_fill 40 = .ok (.iload_n 3, 1) := by decide +kernel
theorem dX5_fill_41 : decode cX5_fill 41 = .ok (.iconst 0, 1) := by decide +kernel
theorem dX5_fill_42 : decode cX5_fill 42 = .ok (.iastore, 1) := by decide +kernel
theorem dX5_fill_43 : decode cX5_fill 43 = .ok (.aload_n 0, 1) := by decide +kernel
theorem dX5_fill_44 : decode cX5_fill 44 = .ok (.getfield 35, 3) := by decide +kernel
theorem dX5_fill_47 : decode cX5_fill 47 = .ok (.iload_n 3, 1) := by decide +kernel
theorem dX5_fill_48 : decode cX5_fill 48 = .ok (.bipush (-6), 2) := by decide +kernel
theorem dX5_fill_50 : decode cX5_fill 50 = .ok (.iastore, 1) := by decide +kernel
theorem dX5_fill_51 : decode cX5_fill 51 = .ok (.aload_n 0, 1) := by decide +kernel
theorem dX5_fill_52 : decode cX5_fill 52 = .ok (.getfield 38, 3) := by decide +kernel
theorem dX5_fill_55 : decode cX5_fill 55 = .ok (.iload_n 3, 1) := by decide +kernel
theorem dX5_fill_56 : decode cX5_fill 56 = .ok (.bipush (-6), 2) := by decide +kernel
theorem dX5_fill_58 : decode cX5_fill 58 = .ok (.iastore, 1) := by decide +kernel
theorem dX5_fill_59 : decode cX5_fill 59 = .ok (.iinc 3 1, 3) := by decide +kernel
theorem dX5_fill_62 : decode cX5_fill 62 = .ok (.goto (-57), 3) := by decide +kernel
theorem dX5_fill_65 : decode cX5_fill 65 = .ok (.aload_n 0, 1) := by decide +kernel
theorem dX5_fill_66 : decode cX5_fill 66 = .ok (.getfield 41, 3) := by decide +kernel
theorem dX5_fill_69 : decode cX5_fill 69 = .ok (.iload_n 1, 1) := by decide +kernel
theorem dX5_fill_70 : decode cX5_fill 70 = .ok (.iconst 0, 1) := by decide +kernel
theorem dX5_fill_71 : decode cX5_fill 71 = .ok (.iastore, 1) := by decide +kernel
theorem dX5_fill_72 : decode cX5_fill 72 = .ok (.aload_n 0, 1) := by decide +kernel
theorem dX5_fill_73 : decode cX5_fill 73 = .ok (.getfield 44, 3) := by decide +kernel
theorem dX5_fill_76 : decode cX5_fill 76 = .ok (.iload_n 1, 1) := by decide +kernel
theorem dX5_fill_77 : decode cX5_fill 77 = .ok (.iload_n 2, 1) := by decide +kernel
theorem dX5_fill_78 : decode cX5_fill 78 = .ok (.iastore, 1) := by decide +kernel
theorem dX5_fill_79 : decode cX5_fill 79 = .ok (.aload_n 0, 1) := by decide +kernel
theorem dX5_fill_80 : decode cX5_fill 80 = .ok (.getfield 47, 3) := by decide +kernel
theorem dX5_fill_83 : decode cX5_fill 83 = .ok (.iload_n 1, 1) := by decide +kernel
theorem dX5_fill_84 : decode cX5_fill 84 = .ok (.iload_n 2, 1) := by decide +kernel
theorem dX5_fill_85 : decode cX5_fill 85 = .ok (.iastore, 1) := by decide +kernel
theorem dX5_fill_86 : decode cX5_fill 86 = .ok (.aload_n 0, 1) := by decide +kernel
theorem dX5_fill_87 : decode cX5_fill 87 = .ok (.getfield 50, 3) := by decide +kernel
theorem dX5_fill_90 : decode cX5_fill 90 = .ok (.iload_n 1, 1) := by decide +kernel
theorem dX5_fill_91 : decode cX5_fill 91 = .ok (.iconst 0, 1) := by decide +kernel
theorem dX5_fill_92 : decode cX5_fill 92 = .ok (.iastore, 1) := by decide +kernel
theorem dX5_fill_93 : decode cX5_fill 93 = .ok (.aload_n 0, 1) := by decide +kernel
theorem dX5_fill_94 : decode cX5_fill 94 = .ok (.getfield 53, 3) := by decide +kernel
theorem dX5_fill_97 : decode cX5_fill 97 = .ok (.iload_n 1, 1) := by decide +kernel
theorem dX5_fill_98 : decode cX5_fill 98 = .ok (.iconst 0, 1) := by decide +kernel
theorem dX5_fill_99 : decode cX5_fill 99 = .ok (.iastore, 1) := by decide +kernel
theorem dX5_fill_100 : decode cX5_fill 100 = .ok (.return_, 1) := by decide +kernel
theorem dX5_holds_0 : decode cX5_holds 0 = .ok (.bipush 100, 2) := by decide +kernel
theorem dX5_holds_2 : decode cX5_holds 2 = .ok (.aload_n 0, 1) := by decide +kernel
theorem dX5_holds_3 : decode cX5_holds 3 = .ok (.getfield 16, 3) := by decide +kernel
theorem dX5_holds_6 : decode cX5_holds 6 = .ok (.iconst 0, 1) := by decide +kernel
theorem dX5_holds_7 : decode cX5_holds 7 = .ok (.iaload, 1) := by decide +kernel
theorem dX5_holds_8 : decode cX5_holds 8 = .ok (.aload_n 0, 1) := by decide +kernel
theorem dX5_holds_9 : decode cX5_holds 9 = .ok (.getfield 26, 3) := by decide +kernel
theorem dX5_holds_12 : decode cX5_holds 12 = .ok (.bipush 24, 2) := by decide +kernel
theorem dX5_holds_14 : decode cX5_holds 14 = .ok (.iload_n 1, 1) := by decide +kernel
theorem dX5_holds_15 : decode cX5_holds 15 = .ok (.imul, 1) := by decide +kernel
theorem dX5_holds_16 : decode cX5_holds 16 = .ok (.iload_n 2, 1) := by decide +kernel
theorem dX5_holds_17 : decode cX5_holds 17 = .ok (.iadd, 1) := by decide +kernel
theorem dX5_holds_18 : decode cX5_holds 18 = .ok (.iaload, 1) := by decide +kernel
theorem dX5_holds_19 : decode cX5_holds 19 = .ok (.isub, 1) := by decide +kernel
theorem dX5_holds_20 : decode cX5_holds 20 = .ok (.imul, 1) := by decide +kernel
theorem dX5_holds_21 : decode cX5_holds 21 = .ok (.aload_n 0, 1) := by decide +kernel
theorem dX5_holds_22 : decode cX5_holds 22 = .ok (.getfield 16, 3) := by decide +kernel
theorem dX5_holds_25 : decode cX5_holds 25 = .ok (.iconst 0, 1) := by decide +kernel
theorem dX5_holds_26 : decode cX5_holds 26 = .ok (.iaload, 1) := by decide +kernel
theorem dX5_holds_27 : decode cX5_holds 27 = .ok (.idiv, 1) := by decide +kernel
theorem dX5_holds_28 : decode cX5_holds 28 = .ok (.istore 5, 2) := by decide +kernel
theorem dX5_holds_30 : decode cX5_holds 30 = .ok (.aload_n 0, 1) := by decide +kernel
theorem dX5_holds_31 : decode cX5_holds 31 = .ok (.getfield 16, 3) := by decide +kernel
theorem dX5_holds_34 : decode cX5_holds 34 = .ok (.iconst 1, 1) := by decide +kernel
theorem dX5_holds_35 : decode cX5_holds 35 = .ok (.iaload, 1) := by decide +kernel
theorem dX5_holds_36 : decode cX5_holds 36 = .ok (.aload_n 0, 1) := by decide +kernel
theorem dX5_holds_37 : decode cX5_holds 37 = .ok (.iload_n 2, 1) := by decide +kernel
theorem dX5_holds_38 : decode cX5_holds 38 = .ok (.invokevirtual 109, 3) := by decide +kernel
theorem dX5_holds_41 : decode cX5_holds 41 = .ok (.ifCond .eq 12, 3) := by decide +kernel
theorem dX5_holds_44 : decode cX5_holds 44 = .ok (.aload_n 0, 1) := by decide +kernel
theorem dX5_holds_45 : decode cX5_holds 45 = .ok (.getfield 16, 3) := by decide +kernel
theorem dX5_holds_48 : decode cX5_holds 48 = .ok (.iconst 2, 1) := by decide +kernel
theorem dX5_holds_49 : decode cX5_holds 49 = .ok (.iaload, 1) := by decide +kernel
theorem dX5_holds_50 : decode cX5_holds 50 = .ok (.goto 4, 3) := by decide +kernel
theorem dX5_holds_53 : decode cX5_holds 53 = .ok (.iconst 0, 1) := by decide +kernel
theorem dX5_holds_54 : decode cX5_holds 54 = .ok (.iadd, 1) := by decide +kernel
theorem dX5_holds_55 : decode cX5_holds 55 = .ok (.istore 6, 2) := by decide +kernel
theorem dX5_holds_57 : decode cX5_holds 57 = .ok (.aload_n 0, 1) := by decide +kernel
theorem dX5_holds_58 : decode cX5_holds 58 = .ok (.iload_n 3, 1) := by decide +kernel
theorem dX5_holds_59 : decode cX5_holds 59 = .ok (.iload 5, 2) := by decide +kernel
theorem dX5_holds_61 : decode cX5_holds 61 = .ok (.aload_n 0, 1) := by decide +kernel
theorem dX5_holds_62 : decode cX5_holds 62 = .ok (.getfield 44, 3) := by decide +kernel
theorem dX5_holds_65 : decode cX5_holds 65 = .ok (.iload_n 1, 1) := by decide +kernel
theorem dX5_holds_66 : decode cX5_holds 66 = .ok (.iaload, 1) := by decide +kernel
theorem dX5_holds_67 : decode cX5_holds 67 = .ok (.invokevirtual 105, 3) := by decide +kernel
theorem dX5_holds_70 : decode cX5_holds 70 = .ok (.aload_n 0, 1) := by decide +kernel
theorem dX5_holds_71 : decode cX5_holds 71 = .ok (.getfield 16, 3) := by decide +kernel
theorem dX5_holds_74 : decode cX5_holds 74 = .ok (.iconst 3, 1) := by decide +kernel
theorem dX5_holds_75 : decode cX5_holds 75 = .ok (.iaload, 1) := by decide +kernel
theorem dX5_holds_76 : decode cX5_holds 76 = .ok (.imul, 1) := by decide +kernel
theorem dX5_holds_77 : decode cX5_holds 77 = .ok (.iload 6, 2) := by decide +kernel
theorem dX5_holds_79 : decode cX5_holds 79 = .ok (.iload 4, 2) := by decide +kernel
theorem dX5_holds_81 : decode cX5_holds 81 = .ok (.iload_n 3, 1) := by decide +kernel
theorem dX5_holds_82 : decode cX5_holds 82 = .ok (.isub, 1) := by decide +kernel
theorem dX5_holds_83 : decode cX5_holds 83 = .ok (.imul, 1) := by decide +kernel
theorem dX5_holds_84 : decode cX5_holds 84 = .ok (.bipush 10, 2) := by decide +kernel
theorem dX5_holds_86 : decode cX5_holds 86 = .ok (.idiv, 1) := by decide +kernel
theorem dX5_holds_87 : decode cX5_holds 87 = .ok (.if_icmp .gt 7, 3) := by decide +kernel
theorem dX5_holds_90 : decode cX5_holds 90 = .ok (.iconst 1, 1) := by decide +kernel
theorem dX5_holds_91 : decode cX5_holds 91 = .ok (.goto 4, 3) := by decide +kernel
theorem dX5_holds_94 : decode cX5_holds 94 = .ok (.iconst 0, 1) := by decide +kernel
theorem dX5_holds_95 : decode cX5_holds 95 = .ok (.ireturn, 1) := by decide +kernel
theorem dX5_warmthOf_0 : decode cX5_warmthOf 0 = .ok (.sipush (-600), 3) := by decide +kernel
theorem dX5_warmthOf_3 : decode cX5_warmthOf 3 = .ok (.istore 4, 2) := by decide +kernel
theorem dX5_warmthOf_5 : decode cX5_warmthOf 5 = .ok (.iconst 0, 1) := by decide +kernel
theorem dX5_warmthOf_6 : decode cX5_warmthOf 6 = .ok (.istore 5, 2) := by decide +kernel
theorem dX5_warmthOf_8 : decode cX5_warmthOf 8 = .ok (.iload 4, 2) := by decide +kernel
theorem dX5_warmthOf_10 : decode cX5_warmthOf 10 = .ok (.iload 5, 2) := by decide +kernel
theorem dX5_warmthOf_12 : decode cX5_warmthOf 12 = .ok (.if_icmp .ge 45, 3) := by decide +kernel
theorem dX5_warmthOf_15 : decode cX5_warmthOf 15 = .ok (.iload 4, 2) := by decide +kernel
theorem dX5_warmthOf_17 : decode cX5_warmthOf 17 = .ok (.iload 5, 2) := by decide +kernel
theorem dX5_warmthOf_19 : decode cX5_warmthOf 19 = .ok (.iload 4, 2) := by decide +kernel
theorem dX5_warmthOf_21 : decode cX5_warmthOf 21 = .ok (.isub, 1) := by decide +kernel
theorem dX5_warmthOf_22 : decode cX5_warmthOf 22 = .ok (.iconst 1, 1) := by decide +kernel
theorem dX5_warmthOf_23 : decode cX5_warmthOf 23 = .ok (.iadd, 1) := by decide +kernel
theorem dX5_warmthOf_24 : decode cX5_warmthOf 24 = .ok (.iconst 2, 1) := by decide +kernel
theorem dX5_warmthOf_25 : decode cX5_warmthOf 25 = .ok (.idiv, 1) := by decide +kernel
theorem dX5_warmthOf_26 : decode cX5_warmthOf 26 = .ok (.iadd, 1) := by decide +kernel
theorem dX5_warmthOf_27 : decode cX5_warmthOf 27 = .ok (.istore 6, 2) := by decide +kernel
theorem dX5_warmthOf_29 : decode cX5_warmthOf 29 = .ok (.aload_n 0, 1) := by decide +kernel
theorem dX5_warmthOf_30 : decode cX5_warmthOf 30 = .ok (.iload_n 1, 1) := by decide +kernel
theorem dX5_warmthOf_31 : decode cX5_warmthOf 31 = .ok (.iload_n 2, 1) := by decide +kernel
theorem dX5_warmthOf_32 : decode cX5_warmthOf 32 = .ok (.iload 6, 2) := by decide +kernel
theorem dX5_warmthOf_34 : decode cX5_warmthOf 34 = .ok (.iload_n 3, 1) := by decide +kernel
theorem dX5_warmthOf_35 : decode cX5_warmthOf 35 = .ok (.invokevirtual 113, 3) := by decide +kernel
theorem dX5_warmthOf_38 : decode cX5_warmthOf 38 = .ok (.ifCond .eq 10, 3) := by decide +kernel
theorem dX5_warmthOf_41 : decode cX5_warmthOf 41 = .ok (.iload 6, 2) := by decide +kernel
theorem dX5_warmthOf_43 : decode cX5_warmthOf 43 = .ok (.istore 4, 2) := by decide +kernel
theorem dX5_warmthOf_45 : decode cX5_warmthOf 45 = .ok (.goto 9, 3) := by decide +kernel
theorem dX5_warmthOf_48 : decode cX5_warmthOf 48 = .ok (.iload 6, 2) := by decide +kernel
theorem dX5_warmthOf_50 : decode cX5_warmthOf 50 = .ok (.iconst 1, 1) := by decide +kernel
theorem dX5_warmthOf_51 : decode cX5_warmthOf 51 = .ok (.isub, 1) := by decide +kernel
theorem dX5_warmthOf_52 : decode cX5_warmthOf 52 = .ok (.istore 5, 2) := by decide +kernel
theorem dX5_warmthOf_54 : decode cX5_warmthOf 54 = .ok (.goto (-46), 3) := by decide +kernel
theorem dX5_warmthOf_57 : decode cX5_warmthOf 57 = .ok (.iload 4, 2) := by decide +kernel
theorem dX5_warmthOf_59 : decode cX5_warmthOf 59 = .ok (.ireturn, 1) := by decide +kernel
theorem dX5_goOn_0 : decode cX5_goOn 0 = .ok (.iconst 0, 1) := by decide +kernel
theorem dX5_goOn_1 : decode cX5_goOn 1 = .ok (.istore 4, 2) := by decide +kernel
theorem dX5_goOn_3 : decode cX5_goOn 3 = .ok (.iconst 0, 1) := by decide +kernel
theorem dX5_goOn_4 : decode cX5_goOn 4 = .ok (.istore 5, 2) := by decide +kernel
theorem dX5_goOn_6 : decode cX5_goOn 6 = .ok (.iload 5, 2) := by decide +kernel
theorem dX5_goOn_8 : decode cX5_goOn 8 = .ok (.aload_n 0, 1) := by decide +kernel
theorem dX5_goOn_9 : decode cX5_goOn 9 = .ok (.invokevirtual 80, 3) := by decide +kernel
theorem dX5_goOn_12 : decode cX5_goOn 12 = .ok (.if_icmp .ge 240, 3) := by decide +kernel
theorem dX5_goOn_15 : decode cX5_goOn 15 = .ok (.bipush 24, 2) := by decide +kernel
theorem dX5_goOn_17 : decode cX5_goOn 17 = .ok (.iload_n 1, 1) := by decide +kernel
theorem dX5_goOn_18 : decode cX5_goOn 18 = .ok (.imul, 1) := by decide +kernel
theorem dX5_goOn_19 : decode cX5_goOn 19 = .ok (.iload 5, 2) := by decide +kernel
theorem dX5_goOn_21 : decode cX5_goOn 21 = .ok (.iadd, 1) := by decide +kernel
theorem dX5_goOn_22 : decode cX5_goOn 22 = .ok (.istore 6, 2) := by decide +kernel
theorem dX5_goOn_24 : decode cX5_goOn 24 = .ok (.aload_n 0, 1) := by decide +kernel
theorem dX5_goOn_25 : decode cX5_goOn 25 = .ok (.getfield 26, 3) := by decide +kernel
theorem dX5_goOn_28 : decode cX5_goOn 28 = .ok (.iload 6, 2) := by decide +kernel
theorem dX5_goOn_30 : decode cX5_goOn 30 = .ok (.iaload, 1) := by decide +kernel
theorem dX5_goOn_31 : decode cX5_goOn 31 = .ok (.ifCond .ne 22, 3) := by decide +kernel
theorem dX5_goOn_34 : decode cX5_goOn 34 = .ok (.aload_n 0, 1) := by decide +kernel
theorem dX5_goOn_35 : decode cX5_goOn 35 = .ok (.getfield 29, 3) := by decide +kernel
theorem dX5_goOn_38 : decode cX5_goOn 38 = .ok (.iload 6, 2) := by decide +kernel
theorem dX5_goOn_40 : decode cX5_goOn 40 = .ok (.iload_n 2, 1) := by decide +kernel
theorem dX5_goOn_41 : decode cX5_goOn 41 = .ok (.iastore, 1) := by decide +kernel
theorem dX5_goOn_42 : decode cX5_goOn 42 = .ok (.aload_n 0, 1) := by decide +kernel
theorem dX5_goOn_43 : decode cX5_goOn 43 = .ok (.getfield 32, 3) := by decide +kernel
theorem dX5_goOn_46 : decode cX5_goOn 46 = .ok (.iload 6, 2) := by decide +kernel
theorem dX5_goOn_48 : decode cX5_goOn 48 = .ok (.iconst 0, 1) := by decide +kernel
theorem dX5_goOn_49 : decode cX5_goOn 49 = .ok (.iastore, 1) := by decide +kernel
theorem dX5_goOn_50 : decode cX5_goOn 50 = .ok (.goto 196, 3) := by decide +kernel
theorem dX5_goOn_53 : decode cX5_goOn 53 = .ok (.aload_n 0, 1) := by decide +kernel
theorem dX5_goOn_54 : decode cX5_goOn 54 = .ok (.iload_n 1, 1) := by decide +kernel
theorem dX5_goOn_55 : decode cX5_goOn 55 = .ok (.iload 5, 2) := by decide +kernel
theorem dX5_goOn_57 : decode cX5_goOn 57 = .ok (.iload_n 2, 1) := by decide +kernel
theorem dX5_goOn_58 : decode cX5_goOn 58 = .ok (.invokevirtual 117, 3) := by decide +kernel
theorem dX5_goOn_61 : decode cX5_goOn 61 = .ok (.istore 7, 2) := by decide +kernel
theorem dX5_goOn_63 : decode cX5_goOn 63 = .ok (.bipush 100, 2) := by decide +kernel
theorem dX5_goOn_65 : decode cX5_goOn 65 = .ok (.aload_n 0, 1) := by decide +kernel
theorem dX5_goOn_66 : decode cX5_goOn 66 = .ok (.getfield 16, 3) := by decide +kernel
theorem dX5_goOn_69 : decode cX5_goOn 69 = .ok (.iconst 0, 1) := by decide +kernel
theorem dX5_goOn_70 : decode cX5_goOn 70 = .ok (.iaload, 1) := by decide +kernel
theorem dX5_goOn_71 : decode cX5_goOn 71 = .ok (.aload_n 0, 1) := by decide +kernel
theorem dX5_goOn_72 : decode cX5_goOn 72 = .ok (.getfield 26, 3) := by decide +kernel
theorem dX5_goOn_75 : decode cX5_goOn 75 = .ok (.iload 6, 2) := by decide +kernel
theorem dX5_goOn_77 : decode cX5_goOn 77 = .ok (.iaload, 1) := by decide +kernel
theorem dX5_goOn_78 : decode cX5_goOn 78 = .ok (.isub, 1) := by decide +kernel
theorem dX5_goOn_79 : decode cX5_goOn 79 = .ok (.imul, 1) := by decide +kernel
theorem dX5_goOn_80 : decode cX5_goOn 80 = .ok (.aload_n 0, 1) := by decide +kernel
theorem dX5_goOn_81 : decode cX5_goOn 81 = .ok (.getfield 16, 3) := by decide +kernel
theorem dX5_goOn_84 : decode cX5_goOn 84 = .ok (.iconst 0, 1) := by decide +kernel
theorem dX5_goOn_85 : decode cX5_goOn 85 = .ok (.iaload, 1) := by decide +kernel
theorem dX5_goOn_86 : decode cX5_goOn 86 = .ok (.idiv, 1) := by decide +kernel
theorem dX5_goOn_87 : decode cX5_goOn 87 = .ok (.istore 8, 2) := by decide +kernel
theorem dX5_goOn_89 : decode cX5_goOn 89 = .ok (.aload_n 0, 1) := by decide +kernel
theorem dX5_goOn_90 : decode cX5_goOn 90 = .ok (.iload 7, 2) := by decide +kernel
theorem dX5_goOn_92 : decode cX5_goOn 92 = .ok (.iload 8, 2) := by decide +kernel
theorem dX5_goOn_94 : decode cX5_goOn 94 = .ok (.aload_n 0, 1) := by decide +kernel
theorem dX5_goOn_95 : decode cX5_goOn 95 = .ok (.getfield 44, 3) := by decide +kernel
theorem dX5_goOn_98 : decode cX5_goOn 98 = .ok (.iload_n 1, 1) := by decide +kernel
theorem dX5_goOn_99 : decode cX5_goOn 99 = .ok (.iaload, 1) := by decide +kernel
theorem dX5_goOn_100 : decode cX5_goOn 100 = .ok (.invokevirtual 105, 3) := by decide +kernel
theorem dX5_goOn_103 : decode cX5_goOn 103 = .ok (.istore 9, 2) := by decide +kernel
theorem dX5_goOn_105 : decode cX5_goOn 105 = .ok (.iload 9, 2) := by decide +kernel
theorem dX5_goOn_107 : decode cX5_goOn 107 = .ok (.aload_n 0, 1) := by decide +kernel
theorem dX5_goOn_108 : decode cX5_goOn 108 = .ok (.getfield 26, 3) := by decide +kernel
theorem dX5_goOn_111 : decode cX5_goOn 111 = .ok (.iload 6, 2) := by decide +kernel
theorem dX5_goOn_113 : decode cX5_goOn 113 = .ok (.iaload, 1) := by decide +kernel
theorem dX5_goOn_114 : decode cX5_goOn 114 = .ok (.if_icmp .ge 8, 3) := by decide +kernel
theorem dX5_goOn_117 : decode cX5_goOn 117 = .ok (.iload 9, 2) := by decide +kernel
theorem dX5_goOn_119 : decode cX5_goOn 119 = .ok (.goto 10, 3) := by decide +kernel
theorem dX5_goOn_122 : decode cX5_goOn 122 = .ok (.aload_n 0, 1) := by decide +kernel
theorem dX5_goOn_123 : decode cX5_goOn 123 = .ok (.getfield 26, 3) := by decide +kernel
theorem dX5_goOn_126 : decode cX5_goOn 126 = .ok (.iload 6, 2) := by decide +kernel
theorem dX5_goOn_128 : decode cX5_goOn 128 = .ok (.iaload, 1) := by decide +kernel
theorem dX5_goOn_129 : decode cX5_goOn 129 = .ok (.istore 9, 2) := by decide +kernel
theorem dX5_goOn_131 : decode cX5_goOn 131 = .ok (.aload_n 0, 1) := by decide +kernel
theorem dX5_goOn_132 : decode cX5_goOn 132 = .ok (.getfield 29, 3) := by decide +kernel
theorem dX5_goOn_135 : decode cX5_goOn 135 = .ok (.iload 6, 2) := by decide +kernel
theorem dX5_goOn_137 : decode cX5_goOn 137 = .ok (.iload 7, 2) := by decide +kernel
theorem dX5_goOn_139 : decode cX5_goOn 139 = .ok (.iastore, 1) := by decide +kernel
theorem dX5_goOn_140 : decode cX5_goOn 140 = .ok (.aload_n 0, 1) := by decide +kernel
theorem dX5_goOn_141 : decode cX5_goOn 141 = .ok (.getfield 32, 3) := by decide +kernel
theorem dX5_goOn_144 : decode cX5_goOn 144 = .ok (.iload 6, 2) := by decide +kernel
theorem dX5_goOn_146 : decode cX5_goOn 146 = .ok (.iload 9, 2) := by decide +kernel
theorem dX5_goOn_148 : decode cX5_goOn 148 = .ok (.iastore, 1) := by decide +kernel
theorem dX5_goOn_149 : decode cX5_goOn 149 = .ok (.aload_n 0, 1) := by decide +kernel
theorem dX5_goOn_150 : decode cX5_goOn 150 = .ok (.getfield 26, 3) := by decide +kernel
theorem dX5_goOn_153 : decode cX5_goOn 153 = .ok (.iload 6, 2) := by decide +kernel
theorem dX5_goOn_155 : decode cX5_goOn 155 = .ok (.dup2, 1) := by decide +kernel
theorem dX5_goOn_156 : decode cX5_goOn 156 = .ok (.iaload, 1) := by decide +kernel
theorem dX5_goOn_157 : decode cX5_goOn 157 = .ok (.iload 9, 2) := by decide +kernel
theorem dX5_goOn_159 : decode cX5_goOn 159 = .ok (.isub, 1) := by decide +kernel
theorem dX5_goOn_160 : decode cX5_goOn 160 = .ok (.iastore, 1) := by decide +kernel
theorem dX5_goOn_161 : decode cX5_goOn 161 = .ok (.iload 4, 2) := by decide +kernel
theorem dX5_goOn_163 : decode cX5_goOn 163 = .ok (.iload 9, 2) := by decide +kernel
theorem dX5_goOn_165 : decode cX5_goOn 165 = .ok (.iadd, 1) := by decide +kernel
theorem dX5_goOn_166 : decode cX5_goOn 166 = .ok (.istore 4, 2) := by decide +kernel
theorem dX5_goOn_168 : decode cX5_goOn 168 = .ok (.aload_n 0, 1) := by decide +kernel
theorem dX5_goOn_169 : decode cX5_goOn 169 = .ok (.getfield 35, 3) := by decide +kernel
theorem dX5_goOn_172 : decode cX5_goOn 172 = .ok (.iload 6, 2) := by decide +kernel
theorem dX5_goOn_174 : decode cX5_goOn 174 = .ok (.iload 7, 2) := by decide +kernel
theorem dX5_goOn_176 : decode cX5_goOn 176 = .ok (.aload_n 0, 1) := by decide +kernel
theorem dX5_goOn_177 : decode cX5_goOn 177 = .ok (.getfield 16, 3) := by decide +kernel
theorem dX5_goOn_180 : decode cX5_goOn 180 = .ok (.bipush 6, 2) := by decide +kernel
theorem dX5_goOn_182 : decode cX5_goOn 182 = .ok (.iaload, 1) := by decide +kernel
theorem dX5_goOn_183 : decode cX5_goOn 183 = .ok (.if_icmp .le 22, 3) := by decide +kernel
theorem dX5_goOn_186 : decode cX5_goOn 186 = .ok (.aload_n 0, 1) := by decide +kernel
theorem dX5_goOn_187 : decode cX5_goOn 187 = .ok (.getfield 35, 3) := by decide +kernel
theorem dX5_goOn_190 : decode cX5_goOn 190 = .ok (.iload 6, 2) := by decide +kernel
theorem dX5_goOn_192 : decode cX5_goOn 192 = .ok (.iaload, 1) := by decide +kernel
theorem dX5_goOn_193 : decode cX5_goOn 193 = .ok (.ifCond .ge 12, 3) := by decide +kernel
theorem dX5_goOn_196 : decode cX5_goOn 196 = .ok (.aload_n 0, 1) := by decide +kernel
theorem dX5_goOn_197 : decode cX5_goOn 197 = .ok (.getfield 41, 3) := by decide +kernel
theorem dX5_goOn_200 : decode cX5_goOn 200 = .ok (.iload_n 1, 1) := by decide +kernel
theorem dX5_goOn_201 : decode cX5_goOn 201 = .ok (.iaload, 1) := by decide +kernel
theorem dX5_goOn_202 : decode cX5_goOn 202 = .ok (.goto 10, 3) := by decide +kernel
theorem dX5_goOn_205 : decode cX5_goOn 205 = .ok (.aload_n 0, 1) := by decide +kernel
theorem dX5_goOn_206 : decode cX5_goOn 206 = .ok (.getfield 35, 3) := by decide +kernel
theorem dX5_goOn_209 : decode cX5_goOn 209 = .ok (.iload 6, 2) := by decide +kernel
theorem dX5_goOn_211 : decode cX5_goOn 211 = .ok (.iaload, 1) := by decide +kernel
theorem dX5_goOn_212 : decode cX5_goOn 212 = .ok (.iastore, 1) := by decide +kernel
theorem dX5_goOn_213 : decode cX5_goOn 213 = .ok (.aload_n 0, 1) := by decide +kernel
theorem dX5_goOn_214 : decode cX5_goOn 214 = .ok (.getfield 38, 3) := by decide +kernel
theorem dX5_goOn_217 : decode cX5_goOn 217 = .ok (.iload 6, 2) := by decide +kernel
theorem dX5_goOn_219 : decode cX5_goOn 219 = .ok (.aload_n 0, 1) := by decide +kernel
theorem dX5_goOn_220 : decode cX5_goOn 220 = .ok (.getfield 26, 3) := by decide +kernel
theorem dX5_goOn_223 : decode cX5_goOn 223 = .ok (.iload 6, 2) := by decide +kernel
theorem dX5_goOn_225 : decode cX5_goOn 225 = .ok (.iaload, 1) := by decide +kernel
theorem dX5_goOn_226 : decode cX5_goOn 226 = .ok (.ifCond .ne 12, 3) := by decide +kernel
theorem dX5_goOn_229 : decode cX5_goOn 229 = .ok (.aload_n 0, 1) := by decide +kernel
theorem dX5_goOn_230 : decode cX5_goOn 230 = .ok (.getfield 41, 3) := by decide +kernel
theorem dX5_goOn_233 : decode cX5_goOn 233 = .ok (.iload_n 1, 1) := by decide +kernel
theorem dX5_goOn_234 : decode cX5_goOn 234 = .ok (.iaload, 1) := by decide +kernel
theorem dX5_goOn_235 : decode cX5_goOn 235 = .ok (.goto 10, 3) := by decide +kernel
theorem dX5_goOn_238 : decode cX5_goOn 238 = .ok (.aload_n 0, 1) := by decide +kernel
theorem dX5_goOn_239 : decode cX5_goOn 239 = .ok (.getfield 38, 3) := by decide +kernel
theorem dX5_goOn_242 : decode cX5_goOn 242 = .ok (.iload 6, 2) := by decide +kernel
theorem dX5_goOn_244 : decode cX5_goOn 244 = .ok (.iaload, 1) := by decide +kernel
theorem dX5_goOn_245 : decode cX5_goOn 245 = .ok (.iastore, 1) := by decide +kernel
theorem dX5_goOn_246 : decode cX5_goOn 246 = .ok (.iinc 5 1, 3) := by decide +kernel
theorem dX5_goOn_249 : decode cX5_goOn 249 = .ok (.goto (-243), 3) := by decide +kernel
theorem dX5_goOn_252 : decode cX5_goOn 252 = .ok (.aload_n 0, 1) := by decide +kernel
theorem dX5_goOn_253 : decode cX5_goOn 253 = .ok (.getfield 50, 3) := by decide +kernel
theorem dX5_goOn_256 : decode cX5_goOn 256 = .ok (.iload_n 1, 1) := by decide +kernel
theorem dX5_goOn_257 : decode cX5_goOn 257 = .ok (.iload 4, 2) := by decide +kernel
theorem dX5_goOn_259 : decode cX5_goOn 259 = .ok (.iastore, 1) := by decide +kernel
theorem dX5_goOn_260 : decode cX5_goOn 260 = .ok (.aload_n 0, 1) := by decide +kernel
theorem dX5_goOn_261 : decode cX5_goOn 261 = .ok (.getfield 53, 3) := by decide +kernel
theorem dX5_goOn_264 : decode cX5_goOn 264 = .ok (.iload_n 1, 1) := by decide +kernel
theorem dX5_goOn_265 : decode cX5_goOn 265 = .ok (.dup2, 1) := by decide +kernel
theorem dX5_goOn_266 : decode cX5_goOn 266 = .ok (.iaload, 1) := by decide +kernel
theorem dX5_goOn_267 : decode cX5_goOn 267 = .ok (.iload 4, 2) := by decide +kernel
theorem dX5_goOn_269 : decode cX5_goOn 269 = .ok (.iadd, 1) := by decide +kernel
theorem dX5_goOn_270 : decode cX5_goOn 270 = .ok (.iastore, 1) := by decide +kernel
theorem dX5_goOn_271 : decode cX5_goOn 271 = .ok (.aload_n 0, 1) := by decide +kernel
theorem dX5_goOn_272 : decode cX5_goOn 272 = .ok (.getfield 44, 3) := by decide +kernel
theorem dX5_goOn_275 : decode cX5_goOn 275 = .ok (.iload_n 1, 1) := by decide +kernel
theorem dX5_goOn_276 : decode cX5_goOn 276 = .ok (.iaload, 1) := by decide +kernel
theorem dX5_goOn_277 : decode cX5_goOn 277 = .ok (.istore 5, 2) := by decide +kernel
theorem dX5_goOn_279 : decode cX5_goOn 279 = .ok (.iload 4, 2) := by decide +kernel
theorem dX5_goOn_281 : decode cX5_goOn 281 = .ok (.aload_n 0, 1) := by decide +kernel
theorem dX5_goOn_282 : decode cX5_goOn 282 = .ok (.getfield 16, 3) := by decide +kernel
theorem dX5_goOn_285 : decode cX5_goOn 285 = .ok (.bipush 7, 2) := by decide +kernel
theorem dX5_goOn_287 : decode cX5_goOn 287 = .ok (.iaload, 1) := by decide +kernel
theorem dX5_goOn_288 : decode cX5_goOn 288 = .ok (.if_icmp .le 47, 3) := by decide +kernel
theorem dX5_goOn_291 : decode cX5_goOn 291 = .ok (.iload 5, 2) := by decide +kernel
theorem dX5_goOn_293 : decode cX5_goOn 293 = .ok (.iload 4, 2) := by decide +kernel
theorem dX5_goOn_295 : decode cX5_goOn 295 = .ok (.aload_n 0, 1) := by decide +kernel
theorem dX5_goOn_296 : decode cX5_goOn 296 = .ok (.getfield 16, 3) := by decide +kernel
theorem dX5_goOn_299 : decode cX5_goOn 299 = .ok (.bipush 7, 2) := by decide +kernel
theorem dX5_goOn_301 : decode cX5_goOn 301 = .ok (.iaload, 1) := by decide +kernel
theorem dX5_goOn_302 : decode cX5_goOn 302 = .ok (.isub, 1) := by decide +kernel
theorem dX5_goOn_303 : decode cX5_goOn 303 = .ok (.aload_n 0, 1) := by decide +kernel
theorem dX5_goOn_304 : decode cX5_goOn 304 = .ok (.getfield 16, 3) := by decide +kernel
theorem dX5_goOn_307 : decode cX5_goOn 307 = .ok (.bipush 8, 2) := by decide +kernel
theorem dX5_goOn_309 : decode cX5_goOn 309 = .ok (.iaload, 1) := by decide +kernel
theorem dX5_goOn_310 : decode cX5_goOn 310 = .ok (.idiv, 1) := by decide +kernel
theorem dX5_goOn_311 : decode cX5_goOn 311 = .ok (.iadd, 1) := by decide +kernel
theorem dX5_goOn_312 : decode cX5_goOn 312 = .ok (.istore 5, 2) := by decide +kernel
theorem dX5_goOn_314 : decode cX5_goOn 314 = .ok (.iload 5, 2) := by decide +kernel
theorem dX5_goOn_316 : decode cX5_goOn 316 = .ok (.sipush 20000, 3) := by decide +kernel
theorem dX5_goOn_319 : decode cX5_goOn 319 = .ok (.if_icmp .le 9, 3) := by decide +kernel
theorem dX5_goOn_322 : decode cX5_goOn 322 = .ok (.sipush 20000, 3) := by decide +kernel
theorem dX5_goOn_325 : decode cX5_goOn 325 = .ok (.goto 5, 3) := by decide +kernel
theorem dX5_goOn_328 : decode cX5_goOn 328 = .ok (.iload 5, 2) := by decide +kernel
theorem dX5_goOn_330 : decode cX5_goOn 330 = .ok (.istore 5, 2) := by decide +kernel
theorem dX5_goOn_332 : decode cX5_goOn 332 = .ok (.goto 15, 3) := by decide +kernel
theorem dX5_goOn_335 : decode cX5_goOn 335 = .ok (.iload 5, 2) := by decide +kernel
theorem dX5_goOn_337 : decode cX5_goOn 337 = .ok (.aload_n 0, 1) := by decide +kernel
theorem dX5_goOn_338 : decode cX5_goOn 338 = .ok (.getfield 16, 3) := by decide +kernel
theorem dX5_goOn_341 : decode cX5_goOn 341 = .ok (.bipush 9, 2) := by decide +kernel
theorem dX5_goOn_343 : decode cX5_goOn 343 = .ok (.iaload, 1) := by decide +kernel
theorem dX5_goOn_344 : decode cX5_goOn 344 = .ok (.isub, 1) := by decide +kernel
theorem dX5_goOn_345 : decode cX5_goOn 345 = .ok (.istore 5, 2) := by decide +kernel
theorem dX5_goOn_347 : decode cX5_goOn 347 = .ok (.aload_n 0, 1) := by decide +kernel
theorem dX5_goOn_348 : decode cX5_goOn 348 = .ok (.getfield 44, 3) := by decide +kernel
theorem dX5_goOn_351 : decode cX5_goOn 351 = .ok (.iload_n 1, 1) := by decide +kernel
theorem dX5_goOn_352 : decode cX5_goOn 352 = .ok (.iload 5, 2) := by decide +kernel
theorem dX5_goOn_354 : decode cX5_goOn 354 = .ok (.iload_n 3, 1) := by decide +kernel
theorem dX5_goOn_355 : decode cX5_goOn 355 = .ok (.if_icmp .ge 7, 3) := by decide +kernel
theorem dX5_goOn_358 : decode cX5_goOn 358 = .ok (.iload_n 3, 1) := by decide +kernel
theorem dX5_goOn_359 : decode cX5_goOn 359 = .ok (.goto 5, 3) := by decide +kernel
theorem dX5_goOn_362 : decode cX5_goOn 362 = .ok (.iload 5, 2) := by decide +kernel
theorem dX5_goOn_364 : decode cX5_goOn 364 = .ok (.iastore, 1) := by decide +kernel
theorem dX5_goOn_365 : decode cX5_goOn 365 = .ok (.aload_n 0, 1) := by decide +kernel
theorem dX5_goOn_366 : decode cX5_goOn 366 = .ok (.getfield 47, 3) := by decide +kernel
theorem dX5_goOn_369 : decode cX5_goOn 369 = .ok (.iload_n 1, 1) := by decide +kernel
theorem dX5_goOn_370 : decode cX5_goOn 370 = .ok (.aload_n 0, 1) := by decide +kernel
theorem dX5_goOn_371 : decode cX5_goOn 371 = .ok (.getfield 44, 3) := by decide +kernel
theorem dX5_goOn_374 : decode cX5_goOn 374 = .ok (.iload_n 1, 1) := by decide +kernel
theorem dX5_goOn_375 : decode cX5_goOn 375 = .ok (.iaload, 1) := by decide +kernel
theorem dX5_goOn_376 : decode cX5_goOn 376 = .ok (.aload_n 0, 1) := by decide +kernel
theorem dX5_goOn_377 : decode cX5_goOn 377 = .ok (.getfield 47, 3) := by decide +kernel
theorem dX5_goOn_380 : decode cX5_goOn 380 = .ok (.iload_n 1, 1) := by decide +kernel
theorem dX5_goOn_381 : decode cX5_goOn 381 = .ok (.iaload, 1) := by decide +kernel
theorem dX5_goOn_382 : decode cX5_goOn 382 = .ok (.if_icmp .le 12, 3) := by decide +kernel
theorem dX5_goOn_385 : decode cX5_goOn 385 = .ok (.aload_n 0, 1) := by decide +kernel
theorem dX5_goOn_386 : decode cX5_goOn 386 = .ok (.getfield 44, 3) := by decide +kernel
theorem dX5_goOn_389 : decode cX5_goOn 389 = .ok (.iload_n 1, 1) := by decide +kernel
theorem dX5_goOn_390 : decode cX5_goOn 390 = .ok (.iaload, 1) := by decide +kernel
theorem dX5_goOn_391 : decode cX5_goOn 391 = .ok (.goto 9, 3) := by decide +kernel
theorem dX5_goOn_394 : decode cX5_goOn 394 = .ok (.aload_n 0, 1) := by decide +kernel
theorem dX5_goOn_395 : decode cX5_goOn 395 = .ok (.getfield 47, 3) := by decide +kernel
theorem dX5_goOn_398 : decode cX5_goOn 398 = .ok (.iload_n 1, 1) := by decide +kernel
theorem dX5_goOn_399 : decode cX5_goOn 399 = .ok (.iaload, 1) := by decide +kernel
theorem dX5_goOn_400 : decode cX5_goOn 400 = .ok (.iastore, 1) := by decide +kernel
theorem dX5_goOn_401 : decode cX5_goOn 401 = .ok (.aload_n 0, 1) := by decide +kernel
theorem dX5_goOn_402 : decode cX5_goOn 402 = .ok (.getfield 41, 3) := by decide +kernel
theorem dX5_goOn_405 : decode cX5_goOn 405 = .ok (.iload_n 1, 1) := by decide +kernel
theorem dX5_goOn_406 : decode cX5_goOn 406 = .ok (.dup2, 1) := by decide +kernel
theorem dX5_goOn_407 : decode cX5_goOn 407 = .ok (.iaload, 1) := by decide +kernel
theorem dX5_goOn_408 : decode cX5_goOn 408 = .ok (.iconst 1, 1) := by decide +kernel
theorem dX5_goOn_409 : decode cX5_goOn 409 = .ok (.iadd, 1) := by decide +kernel
theorem dX5_goOn_410 : decode cX5_goOn 410 = .ok (.iastore, 1) := by decide +kernel
theorem dX5_goOn_411 : decode cX5_goOn 411 = .ok (.return_, 1) := by decide +kernel
theorem dX5_wetOf_0 : decode cX5_wetOf 0 = .ok (.iconst 0, 1) := by decide +kernel
theorem dX5_wetOf_1 : decode cX5_wetOf 1 = .ok (.istore_n 2, 1) := by decide +kernel
theorem dX5_wetOf_2 : decode cX5_wetOf 2 = .ok (.iconst 0, 1) := by decide +kernel
theorem dX5_wetOf_3 : decode cX5_wetOf 3 = .ok (.istore_n 3, 1) := by decide +kernel
theorem dX5_wetOf_4 : decode cX5_wetOf 4 = .ok (.iload_n 3, 1) := by decide +kernel
theorem dX5_wetOf_5 : decode cX5_wetOf 5 = .ok (.aload_n 0, 1) := by decide +kernel
theorem dX5_wetOf_6 : decode cX5_wetOf 6 = .ok (.invokevirtual 80, 3) := by decide +kernel
theorem dX5_wetOf_9 : decode cX5_wetOf 9 = .ok (.if_icmp .ge 31, 3) := by decide +kernel
theorem dX5_wetOf_12 : decode cX5_wetOf 12 = .ok (.iload_n 2, 1) := by decide +kernel
theorem dX5_wetOf_13 : decode cX5_wetOf 13 = .ok (.aload_n 0, 1) := by decide +kernel
theorem dX5_wetOf_14 : decode cX5_wetOf 14 = .ok (.getfield 26, 3) := by decide +kernel
theorem dX5_wetOf_17 : decode cX5_wetOf 17 = .ok (.bipush 24, 2) := by decide +kernel
theorem dX5_wetOf_19 : decode cX5_wetOf 19 = .ok (.iload_n 1, 1) := by decide +kernel
theorem dX5_wetOf_20 : decode cX5_wetOf 20 = .ok (.imul, 1) := by decide +kernel
theorem dX5_wetOf_21 : decode cX5_wetOf 21 = .ok (.iload_n 3, 1) := by decide +kernel
theorem dX5_wetOf_22 : decode cX5_wetOf 22 = .ok (.iadd, 1) := by decide +kernel
theorem dX5_wetOf_23 : decode cX5_wetOf 23 = .ok (.iaload, 1) := by decide +kernel
theorem dX5_wetOf_24 : decode cX5_wetOf 24 = .ok (.ifCond .le 7, 3) := by decide +kernel
theorem dX5_wetOf_27 : decode cX5_wetOf 27 = .ok (.iconst 1, 1) := by decide +kernel
theorem dX5_wetOf_28 : decode cX5_wetOf 28 = .ok (.goto 4, 3) := by decide +kernel
theorem dX5_wetOf_31 : decode cX5_wetOf 31 = .ok (.iconst 0, 1) := by decide +kernel
theorem dX5_wetOf_32 : decode cX5_wetOf 32 = .ok (.iadd, 1) := by decide +kernel
theorem dX5_wetOf_33 : decode cX5_wetOf 33 = .ok (.istore_n 2, 1) := by decide +kernel
theorem dX5_wetOf_34 : decode cX5_wetOf 34 = .ok (.iinc 3 1, 3) := by decide +kernel
theorem dX5_wetOf_37 : decode cX5_wetOf 37 = .ok (.goto (-33), 3) := by decide +kernel
theorem dX5_wetOf_40 : decode cX5_wetOf 40 = .ok (.iload_n 2, 1) := by decide +kernel
theorem dX5_wetOf_41 : decode cX5_wetOf 41 = .ok (.ireturn, 1) := by decide +kernel
theorem dX5_firstOf_0 : decode cX5_firstOf 0 = .ok (.bipush (-6), 2) := by decide +kernel
theorem dX5_firstOf_2 : decode cX5_firstOf 2 = .ok (.istore_n 2, 1) := by decide +kernel
theorem dX5_firstOf_3 : decode cX5_firstOf 3 = .ok (.iconst 0, 1) := by decide +kernel
theorem dX5_firstOf_4 : decode cX5_firstOf 4 = .ok (.istore_n 3, 1) := by decide +kernel
theorem dX5_firstOf_5 : decode cX5_firstOf 5 = .ok (.iload_n 3, 1) := by decide +kernel
theorem dX5_firstOf_6 : decode cX5_firstOf 6 = .ok (.aload_n 0, 1) := by decide +kernel
theorem dX5_firstOf_7 : decode cX5_firstOf 7 = .ok (.invokevirtual 80, 3) := by decide +kernel
theorem dX5_firstOf_10 : decode cX5_firstOf 10 = .ok (.if_icmp .ge 54, 3) := by decide +kernel
theorem dX5_firstOf_13 : decode cX5_firstOf 13 = .ok (.bipush 24, 2) := by decide +kernel
theorem dX5_firstOf_15 : decode cX5_firstOf 15 = .ok (.iload_n 1, 1) := by decide +kernel
theorem dX5_firstOf_16 : decode cX5_firstOf 16 = .ok (.imul, 1) := by decide +kernel
theorem dX5_firstOf_17 : decode cX5_firstOf 17 = .ok (.iload_n 3, 1) := by decide +kernel
theorem dX5_firstOf_18 : decode cX5_firstOf 18 = .ok (.iadd, 1) := by decide +kernel
theorem dX5_firstOf_19 : decode cX5_firstOf 19 = .ok (.istore 4, 2) := by decide +kernel
theorem dX5_firstOf_21 : decode cX5_firstOf 21 = .ok (.aload_n 0, 1) := by decide +kernel
theorem dX5_firstOf_22 : decode cX5_firstOf 22 = .ok (.getfield 35, 3) := by decide +kernel
theorem dX5_firstOf_25 : decode cX5_firstOf 25 = .ok (.iload 4, 2) := by decide +kernel
theorem dX5_firstOf_27 : decode cX5_firstOf 27 = .ok (.iaload, 1) := by decide +kernel
theorem dX5_firstOf_28 : decode cX5_firstOf 28 = .ok (.ifCond .lt 30, 3) := by decide +kernel
theorem dX5_firstOf_31 : decode cX5_firstOf 31 = .ok (.iload_n 2, 1) := by decide +kernel
theorem dX5_firstOf_32 : decode cX5_firstOf 32 = .ok (.ifCond .lt 24, 3) := by decide +kernel
theorem dX5_firstOf_35 : decode cX5_firstOf 35 = .ok (.aload_n 0, 1) := by decide +kernel
theorem dX5_firstOf_36 : decode cX5_firstOf 36 = .ok (.getfield 35, 3) := by decide +kernel
theorem dX5_firstOf_39 : decode cX5_firstOf 39 = .ok (.iload 4, 2) := by decide +kernel
theorem dX5_firstOf_41 : decode cX5_firstOf 41 = .ok (.iaload, 1) := by decide +kernel
theorem dX5_firstOf_42 : decode cX5_firstOf 42 = .ok (.aload_n 0, 1) := by decide +kernel
theorem dX5_firstOf_43 : decode cX5_firstOf 43 = .ok (.getfield 35, 3) := by decide +kernel
theorem dX5_firstOf_46 : decode cX5_firstOf 46 = .ok (.bipush 24, 2) := by decide +kernel
theorem dX5_firstOf_48 : decode cX5_firstOf 48 = .ok (.iload_n 1, 1) := by decide +kernel
theorem dX5_firstOf_49 : decode cX5_firstOf 49 = .ok (.imul, 1) := by decide +kernel
theorem dX5_firstOf_50 : decode cX5_firstOf 50 = .ok (.iload_n 2, 1) := by decide +kernel
theorem dX5_firstOf_51 : decode cX5_firstOf 51 = .ok (.iadd, 1) := by decide +kernel
theorem dX5_firstOf_52 : decode cX5_firstOf 52 = .ok (.iaload, 1) := by decide +kernel
theorem dX5_firstOf_53 : decode cX5_firstOf 53 = .ok (.if_icmp .ge 5, 3) := by decide +kernel
theorem dX5_firstOf_56 : decode cX5_firstOf 56 = .ok (.iload_n 3, 1) := by decide +kernel
theorem dX5_firstOf_57 : decode cX5_firstOf 57 = .ok (.istore_n 2, 1) := by decide +kernel
theorem dX5_firstOf_58 : decode cX5_firstOf 58 = .ok (.iinc 3 1, 3) := by decide +kernel
theorem dX5_firstOf_61 : decode cX5_firstOf 61 = .ok (.goto (-56), 3) := by decide +kernel
theorem dX5_firstOf_64 : decode cX5_firstOf 64 = .ok (.iload_n 2, 1) := by decide +kernel
theorem dX5_firstOf_65 : decode cX5_firstOf 65 = .ok (.ireturn, 1) := by decide +kernel
theorem dX5_load_0 : decode cX5_load 0 = .ok (.aload_n 0, 1) := by decide +kernel
theorem dX5_load_1 : decode cX5_load 1 = .ok (.getfield 76, 3) := by decide +kernel
theorem dX5_load_4 : decode cX5_load 4 = .ok (.ifCond .eq 6, 3) := by decide +kernel
theorem dX5_load_7 : decode cX5_load 7 = .ok (.bipush (-3), 2) := by decide +kernel
theorem dX5_load_9 : decode cX5_load 9 = .ok (.ireturn, 1) := by decide +kernel
theorem dX5_load_10 : decode cX5_load 10 = .ok (.aload_n 0, 1) := by decide +kernel
theorem dX5_load_11 : decode cX5_load 11 = .ok (.iconst 1, 1) := by decide +kernel
theorem dX5_load_12 : decode cX5_load 12 = .ok (.putfield 76, 3) := by decide +kernel
theorem dX5_load_15 : decode cX5_load 15 = .ok (.aload_n 0, 1) := by decide +kernel
theorem dX5_load_16 : decode cX5_load 16 = .ok (.iconst 0, 1) := by decide +kernel
theorem dX5_load_17 : decode cX5_load 17 = .ok (.aload_n 0, 1) := by decide +kernel
theorem dX5_load_18 : decode cX5_load 18 = .ok (.getfield 23, 3) := by decide +kernel
theorem dX5_load_21 : decode cX5_load 21 = .ok (.invokevirtual 120, 3) := by decide +kernel
theorem dX5_load_24 : decode cX5_load 24 = .ok (.aload_n 0, 1) := by decide +kernel
theorem dX5_load_25 : decode cX5_load 25 = .ok (.getfield 62, 3) := by decide +kernel
theorem dX5_load_28 : decode cX5_load 28 = .ok (.iconst 0, 1) := by decide +kernel
theorem dX5_load_29 : decode cX5_load 29 = .ok (.aload_n 0, 1) := by decide +kernel
theorem dX5_load_30 : decode cX5_load 30 = .ok (.invokevirtual 80, 3) := by decide +kernel
theorem dX5_load_33 : decode cX5_load 33 = .ok (.iastore, 1) := by decide +kernel
theorem dX5_load_34 : decode cX5_load 34 = .ok (.aload_n 0, 1) := by decide +kernel
theorem dX5_load_35 : decode cX5_load 35 = .ok (.invokevirtual 80, 3) := by decide +kernel
theorem dX5_load_38 : decode cX5_load 38 = .ok (.ireturn, 1) := by decide +kernel
theorem dX5_warm_0 : decode cX5_warm 0 = .ok (.iload_n 1, 1) := by decide +kernel
theorem dX5_warm_1 : decode cX5_warm 1 = .ok (.i2l, 1) := by decide +kernel
theorem dX5_warm_2 : decode cX5_warm 2 = .ok (.ldc2_w 96, 3) := by decide +kernel
theorem dX5_warm_5 : decode cX5_warm 5 = .ok (.ldc2_w 124, 3) := by decide +kernel
theorem dX5_warm_8 : decode cX5_warm 8 = .ok (.invokestatic 70, 3) := by decide +kernel
theorem dX5_warm_11 : decode cX5_warm 11 = .ok (.ifCond .ne 7, 3) := by decide +kernel
theorem dX5_warm_14 : decode cX5_warm 14 = .ok (.sipush (-10002), 3) := by decide +kernel
theorem dX5_warm_17 : decode cX5_warm 17 = .ok (.ireturn, 1) := by decide +kernel
theorem dX5_warm_18 : decode cX5_warm 18 = .ok (.aload_n 0, 1) := by decide +kernel
theorem dX5_warm_19 : decode cX5_warm 19 = .ok (.getfield 20, 3) := by decide +kernel
theorem dX5_warm_22 : decode cX5_warm 22 = .ok (.istore_n 2, 1) := by decide +kernel
theorem dX5_warm_23 : decode cX5_warm 23 = .ok (.aload_n 0, 1) := by decide +kernel
theorem dX5_warm_24 : decode cX5_warm 24 = .ok (.iload_n 1, 1) := by decide +kernel
theorem dX5_warm_25 : decode cX5_warm 25 = .ok (.putfield 20, 3) := by decide +kernel
theorem dX5_warm_28 : decode cX5_warm 28 = .ok (.iload_n 2, 1) := by decide +kernel
theorem dX5_warm_29 : decode cX5_warm 29 = .ok (.ireturn, 1) := by decide +kernel
theorem dX5_set_0 : decode cX5_set 0 = .ok (.iload_n 1, 1) := by decide +kernel
theorem dX5_set_1 : decode cX5_set 1 = .ok (.i2l, 1) := by decide +kernel
theorem dX5_set_2 : decode cX5_set 2 = .ok (.lconst 0, 1) := by decide +kernel
theorem dX5_set_3 : decode cX5_set 3 = .ok (.ldc2_w 126, 3) := by decide +kernel
theorem dX5_set_6 : decode cX5_set 6 = .ok (.invokestatic 70, 3) := by decide +kernel
theorem dX5_set_9 : decode cX5_set 9 = .ok (.ifCond .ne 6, 3) := by decide +kernel
theorem dX5_set_12 : decode cX5_set 12 = .ok (.bipush (-2), 2) := by decide +kernel
theorem dX5_set_14 : decode cX5_set 14 = .ok (.ireturn, 1) := by decide +kernel
theorem dX5_set_15 : decode cX5_set 15 = .ok (.aload_n 0, 1) := by decide +kernel
theorem dX5_set_16 : decode cX5_set 16 = .ok (.getfield 23, 3) := by decide +kernel
theorem dX5_set_19 : decode cX5_set 19 = .ok (.istore_n 2, 1) := by decide +kernel
theorem dX5_set_20 : decode cX5_set 20 = .ok (.aload_n 0, 1) := by decide +kernel
theorem dX5_set_21 : decode cX5_set 21 = .ok (.iload_n 1, 1) := by decide +kernel
theorem dX5_set_22 : decode cX5_set 22 = .ok (.putfield 23, 3) := by decide +kernel
theorem dX5_set_25 : decode cX5_set 25 = .ok (.iload_n 2, 1) := by decide +kernel
theorem dX5_set_26 : decode cX5_set 26 = .ok (.ireturn, 1) := by decide +kernel
theorem dX5_run_0 : decode cX5_run 0 = .ok (.iload_n 1, 1) := by decide +kernel
theorem dX5_run_1 : decode cX5_run 1 = .ok (.i2l, 1) := by decide +kernel
theorem dX5_run_2 : decode cX5_run 2 = .ok (.lconst 1, 1) := by decide +kernel
theorem dX5_run_3 : decode cX5_run 3 = .ok (.ldc2_w 128, 3) := by decide +kernel
theorem dX5_run_6 : decode cX5_run 6 = .ok (.invokestatic 70, 3) := by decide +kernel
theorem dX5_run_9 : decode cX5_run 9 = .ok (.ifCond .ne 6, 3) := by decide +kernel
theorem dX5_run_12 : decode cX5_run 12 = .ok (.bipush (-2), 2) := by decide +kernel
theorem dX5_run_14 : decode cX5_run 14 = .ok (.ireturn, 1) := by decide +kernel
theorem dX5_run_15 : decode cX5_run 15 = .ok (.aload_n 0, 1) := by decide +kernel
theorem dX5_run_16 : decode cX5_run 16 = .ok (.getfield 76, 3) := by decide +kernel
theorem dX5_run_19 : decode cX5_run 19 = .ok (.ifCond .eq 17, 3) := by decide +kernel
theorem dX5_run_22 : decode cX5_run 22 = .ok (.aload_n 0, 1) := by decide +kernel
theorem dX5_run_23 : decode cX5_run 23 = .ok (.getfield 41, 3) := by decide +kernel
theorem dX5_run_26 : decode cX5_run 26 = .ok (.iconst 0, 1) := by decide +kernel
theorem dX5_run_27 : decode cX5_run 27 = .ok (.iaload, 1) := by decide +kernel
theorem dX5_run_28 : decode cX5_run 28 = .ok (.iload_n 1, 1) := by decide +kernel
theorem dX5_run_29 : decode cX5_run 29 = .ok (.iadd, 1) := by decide +kernel
theorem dX5_run_30 : decode cX5_run 30 = .ok (.sipush 2000, 3) := by decide +kernel
theorem dX5_run_33 : decode cX5_run 33 = .ok (.if_icmp .le 6, 3) := by decide +kernel
theorem dX5_run_36 : decode cX5_run 36 = .ok (.bipush (-3), 2) := by decide +kernel
theorem dX5_run_38 : decode cX5_run 38 = .ok (.ireturn, 1) := by decide +kernel
theorem dX5_run_39 : decode cX5_run 39 = .ok (.iconst 0, 1) := by decide +kernel
theorem dX5_run_40 : decode cX5_run 40 = .ok (.istore_n 2, 1) := by decide +kernel
theorem dX5_run_41 : decode cX5_run 41 = .ok (.iload_n 2, 1) := by decide +kernel
theorem dX5_run_42 : decode cX5_run 42 = .ok (.iload_n 1, 1) := by decide +kernel
theorem dX5_run_43 : decode cX5_run 43 = .ok (.if_icmp .ge 95, 3) := by decide +kernel
theorem dX5_run_46 : decode cX5_run 46 = .ok (.aload_n 0, 1) := by decide +kernel
theorem dX5_run_47 : decode cX5_run 47 = .ok (.iconst 0, 1) := by decide +kernel
theorem dX5_run_48 : decode cX5_run 48 = .ok (.aload_n 0, 1) := by decide +kernel
theorem dX5_run_49 : decode cX5_run 49 = .ok (.getfield 20, 3) := by decide +kernel
theorem dX5_run_52 : decode cX5_run 52 = .ok (.aload_n 0, 1) := by decide +kernel
theorem dX5_run_53 : decode cX5_run 53 = .ok (.getfield 23, 3) := by decide +kernel
theorem dX5_run_56 : decode cX5_run 56 = .ok (.invokevirtual 130, 3) := by decide +kernel
theorem dX5_run_59 : decode cX5_run 59 = .ok (.aload_n 0, 1) := by decide +kernel
theorem dX5_run_60 : decode cX5_run 60 = .ok (.getfield 41, 3) := by decide +kernel
theorem dX5_run_63 : decode cX5_run 63 = .ok (.iconst 0, 1) := by decide +kernel
theorem dX5_run_64 : decode cX5_run 64 = .ok (.iaload, 1) := by decide +kernel
theorem dX5_run_65 : decode cX5_run 65 = .ok (.istore_n 3, 1) := by decide +kernel
theorem dX5_run_66 : decode cX5_run 66 = .ok (.aload_n 0, 1) := by decide +kernel
theorem dX5_run_67 : decode cX5_run 67 = .ok (.getfield 56, 3) := by decide +kernel
theorem dX5_run_70 : decode cX5_run 70 = .ok (.iload_n 3, 1) := by decide +kernel
theorem dX5_run_71 : decode cX5_run 71 = .ok (.aload_n 0, 1) := by decide +kernel
theorem dX5_run_72 : decode cX5_run 72 = .ok (.getfield 44, 3) := by decide +kernel
theorem dX5_run_75 : decode cX5_run 75 = .ok (.iconst 0, 1) := by decide +kernel
theorem dX5_run_76 : decode cX5_run 76 = .ok (.iaload, 1) := by decide +kernel
theorem dX5_run_77 : decode cX5_run 77 = .ok (.iastore, 1) := by decide +kernel
theorem dX5_run_78 : decode cX5_run 78 = .ok (.aload_n 0, 1) := by decide +kernel
theorem dX5_run_79 : decode cX5_run 79 = .ok (.getfield 59, 3) := by decide +kernel
theorem dX5_run_82 : decode cX5_run 82 = .ok (.iload_n 3, 1) := by decide +kernel
theorem dX5_run_83 : decode cX5_run 83 = .ok (.aload_n 0, 1) := by decide +kernel
theorem dX5_run_84 : decode cX5_run 84 = .ok (.getfield 44, 3) := by decide +kernel
theorem dX5_run_87 : decode cX5_run 87 = .ok (.iconst 0, 1) := by decide +kernel
theorem dX5_run_88 : decode cX5_run 88 = .ok (.iaload, 1) := by decide +kernel
theorem dX5_run_89 : decode cX5_run 89 = .ok (.bipush 100, 2) := by decide +kernel
theorem dX5_run_91 : decode cX5_run 91 = .ok (.bipush 60, 2) := by decide +kernel
theorem dX5_run_93 : decode cX5_run 93 = .ok (.aload_n 0, 1) := by decide +kernel
theorem dX5_run_94 : decode cX5_run 94 = .ok (.getfield 50, 3) := by decide +kernel
theorem dX5_run_97 : decode cX5_run 97 = .ok (.iconst 0, 1) := by decide +kernel
theorem dX5_run_98 : decode cX5_run 98 = .ok (.iaload, 1) := by decide +kernel
theorem dX5_run_99 : decode cX5_run 99 = .ok (.imul, 1) := by decide +kernel
theorem dX5_run_100 : decode cX5_run 100 = .ok (.aload_n 0, 1) := by decide +kernel
theorem dX5_run_101 : decode cX5_run 101 = .ok (.getfield 50, 3) := by decide +kernel
theorem dX5_run_104 : decode cX5_run 104 = .ok (.iconst 0, 1) := by decide +kernel
theorem dX5_run_105 : decode cX5_run 105 = .ok (.iaload, 1) := by decide +kernel
theorem dX5_run_106 : decode cX5_run 106 = .ok (.aload_n 0, 1) := by decide +kernel
theorem dX5_run_107 : decode cX5_run 107 = .ok (.getfield 16, 3) := by decide +kernel
theorem dX5_run_110 : decode cX5_run 110 = .ok (.bipush 10, 2) := by decide +kernel
theorem dX5_run_112 : decode cX5_run 112 = .ok (.iaload, 1) := by decide +kernel
theorem dX5_run_113 : decode cX5_run 113 = .ok (.iadd, 1) := by decide +kernel
theorem dX5_run_114 : decode cX5_run 114 = .ok (.idiv, 1) := by decide +kernel
theorem dX5_run_115 : decode cX5_run 115 = .ok (.iadd, 1) := by decide +kernel
theorem dX5_run_116 : decode cX5_run 116 = .ok (.imul, 1) := by decide +kernel
theorem dX5_run_117 : decode cX5_run 117 = .ok (.bipush 100, 2) := by decide +kernel
theorem dX5_run_119 : decode cX5_run 119 = .ok (.idiv, 1) := by decide +kernel
theorem dX5_run_120 : decode cX5_run 120 = .ok (.iastore, 1) := by decide +kernel
theorem dX5_run_121 : decode cX5_run 121 = .ok (.aload_n 0, 1) := by decide +kernel
theorem dX5_run_122 : decode cX5_run 122 = .ok (.getfield 62, 3) := by decide +kernel
theorem dX5_run_125 : decode cX5_run 125 = .ok (.iload_n 3, 1) := by decide +kernel
theorem dX5_run_126 : decode cX5_run 126 = .ok (.aload_n 0, 1) := by decide +kernel
theorem dX5_run_127 : decode cX5_run 127 = .ok (.iconst 0, 1) := by decide +kernel
theorem dX5_run_128 : decode cX5_run 128 = .ok (.invokevirtual 134, 3) := by decide +kernel
theorem dX5_run_131 : decode cX5_run 131 = .ok (.iastore, 1) := by decide +kernel
theorem dX5_run_132 : decode cX5_run 132 = .ok (.iinc 2 1, 3) := by decide +kernel
theorem dX5_run_135 : decode cX5_run 135 = .ok (.goto (-94), 3) := by decide +kernel
theorem dX5_run_138 : decode cX5_run 138 = .ok (.aload_n 0, 1) := by decide +kernel
theorem dX5_run_139 : decode cX5_run 139 = .ok (.getfield 41, 3) := by decide +kernel
theorem dX5_run_142 : decode cX5_run 142 = .ok (.iconst 0, 1) := by decide +kernel
theorem dX5_run_143 : decode cX5_run 143 = .ok (.iaload, 1) := by decide +kernel
theorem dX5_run_144 : decode cX5_run 144 = .ok (.ireturn, 1) := by decide +kernel
theorem dX5_unload_0 : decode cX5_unload 0 = .ok (.aload_n 0, 1) := by decide +kernel
theorem dX5_unload_1 : decode cX5_unload 1 = .ok (.getfield 76, 3) := by decide +kernel
theorem dX5_unload_4 : decode cX5_unload 4 = .ok (.ifCond .ne 6, 3) := by decide +kernel
theorem dX5_unload_7 : decode cX5_unload 7 = .ok (.bipush (-3), 2) := by decide +kernel
theorem dX5_unload_9 : decode cX5_unload 9 = .ok (.ireturn, 1) := by decide +kernel
theorem dX5_unload_10 : decode cX5_unload 10 = .ok (.aload_n 0, 1) := by decide +kernel
theorem dX5_unload_11 : decode cX5_unload 11 = .ok (.iconst 0, 1) := by decide +kernel
theorem dX5_unload_12 : decode cX5_unload 12 = .ok (.putfield 76, 3) := by decide +kernel
theorem dX5_unload_15 : decode cX5_unload 15 = .ok (.aload_n 0, 1) := by decide +kernel
theorem dX5_unload_16 : decode cX5_unload 16 = .ok (.iconst 0, 1) := by decide +kernel
theorem dX5_unload_17 : decode cX5_unload 17 = .ok (.invokevirtual 134, 3) := by decide +kernel
theorem dX5_unload_20 : decode cX5_unload 20 = .ok (.ireturn, 1) := by decide +kernel
theorem dX5_vial_0 : decode cX5_vial 0 = .ok (.aload_n 0, 1) := by decide +kernel
theorem dX5_vial_1 : decode cX5_vial 1 = .ok (.getfield 76, 3) := by decide +kernel
theorem dX5_vial_4 : decode cX5_vial 4 = .ok (.ifCond .ne 7, 3) := by decide +kernel
theorem dX5_vial_7 : decode cX5_vial 7 = .ok (.sipush (-10003), 3) := by decide +kernel
theorem dX5_vial_10 : decode cX5_vial 10 = .ok (.ireturn, 1) := by decide +kernel
theorem dX5_vial_11 : decode cX5_vial 11 = .ok (.iload_n 1, 1) := by decide +kernel
theorem dX5_vial_12 : decode cX5_vial 12 = .ok (.i2l, 1) := by decide +kernel
theorem dX5_vial_13 : decode cX5_vial 13 = .ok (.lconst 0, 1) := by decide +kernel
theorem dX5_vial_14 : decode cX5_vial 14 = .ok (.aload_n 0, 1) := by decide +kernel
theorem dX5_vial_15 : decode cX5_vial 15 = .ok (.invokevirtual 80, 3) := by decide +kernel
theorem dX5_vial_18 : decode cX5_vial 18 = .ok (.iconst 1, 1) := by decide +kernel
theorem dX5_vial_19 : decode cX5_vial 19 = .ok (.isub, 1) := by decide +kernel
theorem dX5_vial_20 : decode cX5_vial 20 = .ok (.i2l, 1) := by decide +kernel
theorem dX5_vial_21 : decode cX5_vial 21 = .ok (.invokestatic 70, 3) := by decide +kernel
theorem dX5_vial_24 : decode cX5_vial 24 = .ok (.ifCond .ne 7, 3) := by decide +kernel
theorem dX5_vial_27 : decode cX5_vial 27 = .ok (.sipush (-10001), 3) := by decide +kernel
theorem dX5_vial_30 : decode cX5_vial 30 = .ok (.ireturn, 1) := by decide +kernel
theorem dX5_vial_31 : decode cX5_vial 31 = .ok (.iload_n 2, 1) := by decide +kernel
theorem dX5_vial_32 : decode cX5_vial 32 = .ok (.ifCond .ne 12, 3) := by decide +kernel
theorem dX5_vial_35 : decode cX5_vial 35 = .ok (.aload_n 0, 1) := by decide +kernel
theorem dX5_vial_36 : decode cX5_vial 36 = .ok (.getfield 26, 3) := by decide +kernel
theorem dX5_vial_39 : decode cX5_vial 39 = .ok (.iload_n 1, 1) := by decide +kernel
theorem dX5_vial_40 : decode cX5_vial 40 = .ok (.iaload, 1) := by decide +kernel
theorem dX5_vial_41 : decode cX5_vial 41 = .ok (.goto 62, 3) := by decide +kernel
theorem dX5_vial_44 : decode cX5_vial 44 = .ok (.iload_n 2, 1) := by decide +kernel
theorem dX5_vial_45 : decode cX5_vial 45 = .ok (.iconst 1, 1) := by decide +kernel
theorem dX5_vial_46 : decode cX5_vial 46 = .ok (.if_icmp .ne 12, 3) := by decide +kernel
theorem dX5_vial_49 : decode cX5_vial 49 = .ok (.aload_n 0, 1) := by decide +kernel
theorem dX5_vial_50 : decode cX5_vial 50 = .ok (.getfield 29, 3) := by decide +kernel
theorem dX5_vial_53 : decode cX5_vial 53 = .ok (.iload_n 1, 1) := by decide +kernel
theorem dX5_vial_54 : decode cX5_vial 54 = .ok (.iaload, 1) := by decide +kernel
theorem dX5_vial_55 : decode cX5_vial 55 = .ok (.goto 48, 3) := by decide +kernel
theorem dX5_vial_58 : decode cX5_vial 58 = .ok (.iload_n 2, 1) := by decide +kernel
theorem dX5_vial_59 : decode cX5_vial 59 = .ok (.iconst 2, 1) := by decide +kernel
theorem dX5_vial_60 : decode cX5_vial 60 = .ok (.if_icmp .ne 12, 3) := by decide +kernel
theorem dX5_vial_63 : decode cX5_vial 63 = .ok (.aload_n 0, 1) := by decide +kernel
theorem dX5_vial_64 : decode cX5_vial 64 = .ok (.getfield 32, 3) := by decide +kernel
theorem dX5_vial_67 : decode cX5_vial 67 = .ok (.iload_n 1, 1) := by decide +kernel
theorem dX5_vial_68 : decode cX5_vial 68 = .ok (.iaload, 1) := by decide +kernel
theorem dX5_vial_69 : decode cX5_vial 69 = .ok (.goto 34, 3) := by decide +kernel
theorem dX5_vial_72 : decode cX5_vial 72 = .ok (.iload_n 2, 1) := by decide +kernel
theorem dX5_vial_73 : decode cX5_vial 73 = .ok (.iconst 3, 1) := by decide +kernel
theorem dX5_vial_74 : decode cX5_vial 74 = .ok (.if_icmp .ne 12, 3) := by decide +kernel
theorem dX5_vial_77 : decode cX5_vial 77 = .ok (.aload_n 0, 1) := by decide +kernel
theorem dX5_vial_78 : decode cX5_vial 78 = .ok (.getfield 35, 3) := by decide +kernel
theorem dX5_vial_81 : decode cX5_vial 81 = .ok (.iload_n 1, 1) := by decide +kernel
theorem dX5_vial_82 : decode cX5_vial 82 = .ok (.iaload, 1) := by decide +kernel
theorem dX5_vial_83 : decode cX5_vial 83 = .ok (.goto 20, 3) := by decide +kernel
theorem dX5_vial_86 : decode cX5_vial 86 = .ok (.iload_n 2, 1) := by decide +kernel
theorem dX5_vial_87 : decode cX5_vial 87 = .ok (.iconst 4, 1) := by decide +kernel
theorem dX5_vial_88 : decode cX5_vial 88 = .ok (.if_icmp .ne 12, 3) := by decide +kernel
theorem dX5_vial_91 : decode cX5_vial 91 = .ok (.aload_n 0, 1) := by decide +kernel
theorem dX5_vial_92 : decode cX5_vial 92 = .ok (.getfield 38, 3) := by decide +kernel
theorem dX5_vial_95 : decode cX5_vial 95 = .ok (.iload_n 1, 1) := by decide +kernel
theorem dX5_vial_96 : decode cX5_vial 96 = .ok (.iaload, 1) := by decide +kernel
theorem dX5_vial_97 : decode cX5_vial 97 = .ok (.goto 6, 3) := by decide +kernel
theorem dX5_vial_100 : decode cX5_vial 100 = .ok (.sipush (-10002), 3) := by decide +kernel
theorem dX5_vial_103 : decode cX5_vial 103 = .ok (.ireturn, 1) := by decide +kernel
theorem dX5_about_0 : decode cX5_about 0 = .ok (.iload_n 1, 1) := by decide +kernel
theorem dX5_about_1 : decode cX5_about 1 = .ok (.i2l, 1) := by decide +kernel
theorem dX5_about_2 : decode cX5_about 2 = .ok (.lconst 0, 1) := by decide +kernel
theorem dX5_about_3 : decode cX5_about 3 = .ok (.ldc2_w 137, 3) := by decide +kernel
theorem dX5_about_6 : decode cX5_about 6 = .ok (.invokestatic 70, 3) := by decide +kernel
theorem dX5_about_9 : decode cX5_about 9 = .ok (.ifCond .ne 7, 3) := by decide +kernel
theorem dX5_about_12 : decode cX5_about 12 = .ok (.sipush (-10002), 3) := by decide +kernel
theorem dX5_about_15 : decode cX5_about 15 = .ok (.ireturn, 1) := by decide +kernel
theorem dX5_about_16 : decode cX5_about 16 = .ok (.iload_n 1, 1) := by decide +kernel
theorem dX5_about_17 : decode cX5_about 17 = .ok (.bipush 7, 2) := by decide +kernel
theorem dX5_about_19 : decode cX5_about 19 = .ok (.if_icmp .le 21, 3) := by decide +kernel
theorem dX5_about_22 : decode cX5_about 22 = .ok (.iload_n 1, 1) := by decide +kernel
theorem dX5_about_23 : decode cX5_about 23 = .ok (.bipush 8, 2) := by decide +kernel
theorem dX5_about_25 : decode cX5_about 25 = .ok (.if_icmp .ne 10, 3) := by decide +kernel
theorem dX5_about_28 : decode cX5_about 28 = .ok (.aload_n 0, 1) := by decide +kernel
theorem dX5_about_29 : decode cX5_about 29 = .ok (.getfield 20, 3) := by decide +kernel
theorem dX5_about_32 : decode cX5_about 32 = .ok (.goto 7, 3) := by decide +kernel
theorem dX5_about_35 : decode cX5_about 35 = .ok (.aload_n 0, 1) := by decide +kernel
theorem dX5_about_36 : decode cX5_about 36 = .ok (.getfield 23, 3) := by decide +kernel
theorem dX5_about_39 : decode cX5_about 39 = .ok (.ireturn, 1) := by decide +kernel
theorem dX5_about_40 : decode cX5_about 40 = .ok (.aload_n 0, 1) := by decide +kernel
theorem dX5_about_41 : decode cX5_about 41 = .ok (.getfield 76, 3) := by decide +kernel
theorem dX5_about_44 : decode cX5_about 44 = .ok (.ifCond .ne 7, 3) := by decide +kernel
theorem dX5_about_47 : decode cX5_about 47 = .ok (.sipush (-10003), 3) := by decide +kernel
theorem dX5_about_50 : decode cX5_about 50 = .ok (.ireturn, 1) := by decide +kernel
theorem dX5_about_51 : decode cX5_about 51 = .ok (.iconst 0, 1) := by decide +kernel
theorem dX5_about_52 : decode cX5_about 52 = .ok (.istore_n 2, 1) := by decide +kernel
theorem dX5_about_53 : decode cX5_about 53 = .ok (.iconst 0, 1) := by decide +kernel
theorem dX5_about_54 : decode cX5_about 54 = .ok (.istore_n 3, 1) := by decide +kernel
theorem dX5_about_55 : decode cX5_about 55 = .ok (.iconst 0, 1) := by decide +kernel
theorem dX5_about_56 : decode cX5_about 56 = .ok (.istore 4, 2) := by decide +kernel
theorem dX5_about_58 : decode cX5_about 58 = .ok (.iload 4, 2) := by decide +kernel
theorem dX5_about_60 : decode cX5_about 60 = .ok (.aload_n 0, 1) := by decide +kernel
theorem dX5_about_61 : decode cX5_about 61 = .ok (.invokevirtual 80, 3) := by decide +kernel
theorem dX5_about_64 : decode cX5_about 64 = .ok (.if_icmp .ge 37, 3) := by decide +kernel
theorem dX5_about_67 : decode cX5_about 67 = .ok (.iload_n 2, 1) := by decide +kernel
theorem dX5_about_68 : decode cX5_about 68 = .ok (.aload_n 0, 1) := by decide +kernel
theorem dX5_about_69 : decode cX5_about 69 = .ok (.getfield 26, 3) := by decide +kernel
theorem dX5_about_72 : decode cX5_about 72 = .ok (.iload 4, 2) := by decide +kernel
theorem dX5_about_74 : decode cX5_about 74 = .ok (.iaload, 1) := by decide +kernel
theorem dX5_about_75 : decode cX5_about 75 = .ok (.iadd, 1) := by decide +kernel
theorem dX5_about_76 : decode cX5_about 76 = .ok (.istore_n 2, 1) := by decide +kernel
theorem dX5_about_77 : decode cX5_about 77 = .ok (.iload_n 3, 1) := by decide +kernel
theorem dX5_about_78 : decode cX5_about 78 = .ok (.aload_n 0, 1) := by decide +kernel
theorem dX5_about_79 : decode cX5_about 79 = .ok (.getfield 35, 3) := by decide +kernel
theorem dX5_about_82 : decode cX5_about 82 = .ok (.iload 4, 2) := by decide +kernel
theorem dX5_about_84 : decode cX5_about 84 = .ok (.iaload, 1) := by decide +kernel
theorem dX5_about_85 : decode cX5_about 85 = .ok (.ifCond .lt 7, 3) := by decide +kernel
theorem dX5_about_88 : decode cX5_about 88 = .ok (.iconst 1, 1) := by decide +kernel
theorem dX5_about_89 : decode cX5_about 89 = .ok (.goto 4, 3) := by decide +kernel
theorem dX5_about_92 : decode cX5_about 92 = .ok (.iconst 0, 1) := by decide +kernel
theorem dX5_about_93 : decode cX5_about 93 = .ok (.iadd, 1) := by decide +kernel
theorem dX5_about_94 : decode cX5_about 94 = .ok (.istore_n 3, 1) := by decide +kernel
theorem dX5_about_95 : decode cX5_about 95 = .ok (.iinc 4 1, 3) := by decide +kernel
theorem dX5_about_98 : decode cX5_about 98 = .ok (.goto (-40), 3) := by decide +kernel
theorem dX5_about_101 : decode cX5_about 101 = .ok (.iload_n 1, 1) := by decide +kernel
theorem dX5_about_102 : decode cX5_about 102 = .ok (.tableswitch 81 0 6 #[42, 49, 56, 58, 65, 72, 79], 42) := by decide +kernel
theorem dX5_about_144 : decode cX5_about 144 = .ok (.aload_n 0, 1) := by decide +kernel
theorem dX5_about_145 : decode cX5_about 145 = .ok (.getfield 41, 3) := by decide +kernel
theorem dX5_about_148 : decode cX5_about 148 = .ok (.iconst 0, 1) := by decide +kernel
theorem dX5_about_149 : decode cX5_about 149 = .ok (.iaload, 1) := by decide +kernel
theorem dX5_about_150 : decode cX5_about 150 = .ok (.ireturn, 1) := by decide +kernel
theorem dX5_about_151 : decode cX5_about 151 = .ok (.aload_n 0, 1) := by decide +kernel
theorem dX5_about_152 : decode cX5_about 152 = .ok (.getfield 44, 3) := by decide +kernel
theorem dX5_about_155 : decode cX5_about 155 = .ok (.iconst 0, 1) := by decide +kernel
theorem dX5_about_156 : decode cX5_about 156 = .ok (.iaload, 1) := by decide +kernel
theorem dX5_about_157 : decode cX5_about 157 = .ok (.ireturn, 1) := by decide +kernel
theorem dX5_about_158 : decode cX5_about 158 = .ok (.iload_n 2, 1) := by decide +kernel
theorem dX5_about_159 : decode cX5_about 159 = .ok (.ireturn, 1) := by decide +kernel
theorem dX5_about_160 : decode cX5_about 160 = .ok (.aload_n 0, 1) := by decide +kernel
theorem dX5_about_161 : decode cX5_about 161 = .ok (.getfield 53, 3) := by decide +kernel
theorem dX5_about_164 : decode cX5_about 164 = .ok (.iconst 0, 1) := by decide +kernel
theorem dX5_about_165 : decode cX5_about 165 = .ok (.iaload, 1) := by decide +kernel
theorem dX5_about_166 : decode cX5_about 166 = .ok (.ireturn, 1) := by decide +kernel
theorem dX5_about_167 : decode cX5_about 167 = .ok (.aload_n 0, 1) := by decide +kernel
theorem dX5_about_168 : decode cX5_about 168 = .ok (.getfield 50, 3) := by decide +kernel
theorem dX5_about_171 : decode cX5_about 171 = .ok (.iconst 0, 1) := by decide +kernel
theorem dX5_about_172 : decode cX5_about 172 = .ok (.iaload, 1) := by decide +kernel
theorem dX5_about_173 : decode cX5_about 173 = .ok (.ireturn, 1) := by decide +kernel
theorem dX5_about_174 : decode cX5_about 174 = .ok (.aload_n 0, 1) := by decide +kernel
theorem dX5_about_175 : decode cX5_about 175 = .ok (.getfield 47, 3) := by decide +kernel
theorem dX5_about_178 : decode cX5_about 178 = .ok (.iconst 0, 1) := by decide +kernel
theorem dX5_about_179 : decode cX5_about 179 = .ok (.iaload, 1) := by decide +kernel
theorem dX5_about_180 : decode cX5_about 180 = .ok (.ireturn, 1) := by decide +kernel
theorem dX5_about_181 : decode cX5_about 181 = .ok (.iload_n 3, 1) := by decide +kernel
theorem dX5_about_182 : decode cX5_about 182 = .ok (.ireturn, 1) := by decide +kernel
theorem dX5_about_183 : decode cX5_about 183 = .ok (.aload_n 0, 1) := by decide +kernel
theorem dX5_about_184 : decode cX5_about 184 = .ok (.invokevirtual 80, 3) := by decide +kernel
theorem dX5_about_187 : decode cX5_about 187 = .ok (.aload_n 0, 1) := by decide +kernel
theorem dX5_about_188 : decode cX5_about 188 = .ok (.iconst 0, 1) := by decide +kernel
theorem dX5_about_189 : decode cX5_about 189 = .ok (.invokevirtual 134, 3) := by decide +kernel
theorem dX5_about_192 : decode cX5_about 192 = .ok (.isub, 1) := by decide +kernel
theorem dX5_about_193 : decode cX5_about 193 = .ok (.ireturn, 1) := by decide +kernel
theorem dX5_gauge_0 : decode cX5_gauge 0 = .ok (.aload_n 0, 1) := by decide +kernel
theorem dX5_gauge_1 : decode cX5_gauge 1 = .ok (.getfield 76, 3) := by decide +kernel
theorem dX5_gauge_4 : decode cX5_gauge 4 = .ok (.ifCond .ne 6, 3) := by decide +kernel
theorem dX5_gauge_7 : decode cX5_gauge 7 = .ok (.bipush (-3), 2) := by decide +kernel
theorem dX5_gauge_9 : decode cX5_gauge 9 = .ok (.ireturn, 1) := by decide +kernel
theorem dX5_gauge_10 : decode cX5_gauge 10 = .ok (.iload_n 1, 1) := by decide +kernel
theorem dX5_gauge_11 : decode cX5_gauge 11 = .ok (.i2l, 1) := by decide +kernel
theorem dX5_gauge_12 : decode cX5_gauge 12 = .ok (.lconst 1, 1) := by decide +kernel
theorem dX5_gauge_13 : decode cX5_gauge 13 = .ok (.aload_n 0, 1) := by decide +kernel
theorem dX5_gauge_14 : decode cX5_gauge 14 = .ok (.getfield 41, 3) := by decide +kernel
theorem dX5_gauge_17 : decode cX5_gauge 17 = .ok (.iconst 0, 1) := by decide +kernel
theorem dX5_gauge_18 : decode cX5_gauge 18 = .ok (.iaload, 1) := by decide +kernel
theorem dX5_gauge_19 : decode cX5_gauge 19 = .ok (.i2l, 1) := by decide +kernel
theorem dX5_gauge_20 : decode cX5_gauge 20 = .ok (.invokestatic 70, 3) := by decide +kernel
theorem dX5_gauge_23 : decode cX5_gauge 23 = .ok (.ifCond .ne 5, 3) := by decide +kernel
theorem dX5_gauge_26 : decode cX5_gauge 26 = .ok (.iconst (-1), 1) := by decide +kernel
theorem dX5_gauge_27 : decode cX5_gauge 27 = .ok (.ireturn, 1) := by decide +kernel
theorem dX5_gauge_28 : decode cX5_gauge 28 = .ok (.iload_n 2, 1) := by decide +kernel
theorem dX5_gauge_29 : decode cX5_gauge 29 = .ok (.ifCond .ne 12, 3) := by decide +kernel
theorem dX5_gauge_32 : decode cX5_gauge 32 = .ok (.aload_n 0, 1) := by decide +kernel
theorem dX5_gauge_33 : decode cX5_gauge 33 = .ok (.getfield 56, 3) := by decide +kernel
theorem dX5_gauge_36 : decode cX5_gauge 36 = .ok (.iload_n 1, 1) := by decide +kernel
theorem dX5_gauge_37 : decode cX5_gauge 37 = .ok (.iaload, 1) := by decide +kernel
theorem dX5_gauge_38 : decode cX5_gauge 38 = .ok (.goto 19, 3) := by decide +kernel
theorem dX5_gauge_41 : decode cX5_gauge 41 = .ok (.iload_n 2, 1) := by decide +kernel
theorem dX5_gauge_42 : decode cX5_gauge 42 = .ok (.iconst 1, 1) := by decide +kernel
theorem dX5_gauge_43 : decode cX5_gauge 43 = .ok (.if_icmp .ne 12, 3) := by decide +kernel
theorem dX5_gauge_46 : decode cX5_gauge 46 = .ok (.aload_n 0, 1) := by decide +kernel
theorem dX5_gauge_47 : decode cX5_gauge 47 = .ok (.getfield 59, 3) := by decide +kernel
theorem dX5_gauge_50 : decode cX5_gauge 50 = .ok (.iload_n 1, 1) := by decide +kernel
theorem dX5_gauge_51 : decode cX5_gauge 51 = .ok (.iaload, 1) := by decide +kernel
theorem dX5_gauge_52 : decode cX5_gauge 52 = .ok (.goto 5, 3) := by decide +kernel
theorem dX5_gauge_55 : decode cX5_gauge 55 = .ok (.bipush (-2), 2) := by decide +kernel
theorem dX5_gauge_57 : decode cX5_gauge 57 = .ok (.ireturn, 1) := by decide +kernel
theorem dX5_end_0 : decode cX5_end 0 = .ok (.iload_n 1, 1) := by decide +kernel
theorem dX5_end_1 : decode cX5_end 1 = .ok (.i2l, 1) := by decide +kernel
theorem dX5_end_2 : decode cX5_end 2 = .ok (.lconst 0, 1) := by decide +kernel
theorem dX5_end_3 : decode cX5_end 3 = .ok (.ldc2_w 101, 3) := by decide +kernel
theorem dX5_end_6 : decode cX5_end 6 = .ok (.invokestatic 70, 3) := by decide +kernel
theorem dX5_end_9 : decode cX5_end 9 = .ok (.ifCond .eq 15, 3) := by decide +kernel
theorem dX5_end_12 : decode cX5_end 12 = .ok (.iload_n 2, 1) := by decide +kernel
theorem dX5_end_13 : decode cX5_end 13 = .ok (.i2l, 1) := by decide +kernel
theorem dX5_end_14 : decode cX5_end 14 = .ok (.lconst 1, 1) := by decide +kernel
theorem dX5_end_15 : decode cX5_end 15 = .ok (.ldc2_w 139, 3) := by decide +kernel
theorem dX5_end_18 : decode cX5_end 18 = .ok (.invokestatic 70, 3) := by decide +kernel
theorem dX5_end_21 : decode cX5_end 21 = .ok (.ifCond .ne 6, 3) := by decide +kernel
theorem dX5_end_24 : decode cX5_end 24 = .ok (.bipush (-2), 2) := by decide +kernel
theorem dX5_end_26 : decode cX5_end 26 = .ok (.ireturn, 1) := by decide +kernel
theorem dX5_end_27 : decode cX5_end 27 = .ok (.aload_n 0, 1) := by decide +kernel
theorem dX5_end_28 : decode cX5_end 28 = .ok (.getfield 76, 3) := by decide +kernel
theorem dX5_end_31 : decode cX5_end 31 = .ok (.ifCond .ne 6, 3) := by decide +kernel
theorem dX5_end_34 : decode cX5_end 34 = .ok (.bipush (-3), 2) := by decide +kernel
theorem dX5_end_36 : decode cX5_end 36 = .ok (.ireturn, 1) := by decide +kernel
theorem dX5_end_37 : decode cX5_end 37 = .ok (.iconst 0, 1) := by decide +kernel
theorem dX5_end_38 : decode cX5_end 38 = .ok (.istore_n 3, 1) := by decide +kernel
theorem dX5_end_39 : decode cX5_end 39 = .ok (.iconst 1, 1) := by decide +kernel
theorem dX5_end_40 : decode cX5_end 40 = .ok (.istore 4, 2) := by decide +kernel
theorem dX5_end_42 : decode cX5_end 42 = .ok (.iload 4, 2) := by decide +kernel
theorem dX5_end_44 : decode cX5_end 44 = .ok (.aload_n 0, 1) := by decide +kernel
theorem dX5_end_45 : decode cX5_end 45 = .ok (.getfield 41, 3) := by decide +kernel
theorem dX5_end_48 : decode cX5_end 48 = .ok (.iconst 0, 1) := by decide +kernel
theorem dX5_end_49 : decode cX5_end 49 = .ok (.iaload, 1) := by decide +kernel
theorem dX5_end_50 : decode cX5_end 50 = .ok (.if_icmp .gt 44, 3) := by decide +kernel
theorem dX5_end_53 : decode cX5_end 53 = .ok (.aload_n 0, 1) := by decide +kernel
theorem dX5_end_54 : decode cX5_end 54 = .ok (.getfield 59, 3) := by decide +kernel
theorem dX5_end_57 : decode cX5_end 57 = .ok (.iload 4, 2) := by decide +kernel
theorem dX5_end_59 : decode cX5_end 59 = .ok (.iaload, 1) := by decide +kernel
theorem dX5_end_60 : decode cX5_end 60 = .ok (.aload_n 0, 1) := by decide +kernel
theorem dX5_end_61 : decode cX5_end 61 = .ok (.getfield 56, 3) := by decide +kernel
theorem dX5_end_64 : decode cX5_end 64 = .ok (.iload 4, 2) := by decide +kernel
theorem dX5_end_66 : decode cX5_end 66 = .ok (.iaload, 1) := by decide +kernel
theorem dX5_end_67 : decode cX5_end 67 = .ok (.isub, 1) := by decide +kernel
theorem dX5_end_68 : decode cX5_end 68 = .ok (.iload_n 1, 1) := by decide +kernel
theorem dX5_end_69 : decode cX5_end 69 = .ok (.if_icmp .gt 9, 3) := by decide +kernel
theorem dX5_end_72 : decode cX5_end 72 = .ok (.iload_n 3, 1) := by decide +kernel
theorem dX5_end_73 : decode cX5_end 73 = .ok (.iconst 1, 1) := by decide +kernel
theorem dX5_end_74 : decode cX5_end 74 = .ok (.iadd, 1) := by decide +kernel
theorem dX5_end_75 : decode cX5_end 75 = .ok (.goto 4, 3) := by decide +kernel
theorem dX5_end_78 : decode cX5_end 78 = .ok (.iconst 0, 1) := by decide +kernel
theorem dX5_end_79 : decode cX5_end 79 = .ok (.istore_n 3, 1) := by decide +kernel
theorem dX5_end_80 : decode cX5_end 80 = .ok (.iload_n 3, 1) := by decide +kernel
theorem dX5_end_81 : decode cX5_end 81 = .ok (.iload_n 2, 1) := by decide +kernel
theorem dX5_end_82 : decode cX5_end 82 = .ok (.if_icmp .ne 6, 3) := by decide +kernel
theorem dX5_end_85 : decode cX5_end 85 = .ok (.iload 4, 2) := by decide +kernel
theorem dX5_end_87 : decode cX5_end 87 = .ok (.ireturn, 1) := by decide +kernel
theorem dX5_end_88 : decode cX5_end 88 = .ok (.iinc 4 1, 3) := by decide +kernel
theorem dX5_end_91 : decode cX5_end 91 = .ok (.goto (-49), 3) := by decide +kernel
theorem dX5_end_94 : decode cX5_end 94 = .ok (.bipush (-6), 2) := by decide +kernel
theorem dX5_end_96 : decode cX5_end 96 = .ok (.ireturn, 1) := by decide +kernel
theorem dX5_wet_0 : decode cX5_wet 0 = .ok (.aload_n 0, 1) := by decide +kernel
theorem dX5_wet_1 : decode cX5_wet 1 = .ok (.getfield 76, 3) := by decide +kernel
theorem dX5_wet_4 : decode cX5_wet 4 = .ok (.ifCond .ne 6, 3) := by decide +kernel
theorem dX5_wet_7 : decode cX5_wet 7 = .ok (.bipush (-3), 2) := by decide +kernel
theorem dX5_wet_9 : decode cX5_wet 9 = .ok (.ireturn, 1) := by decide +kernel
theorem dX5_wet_10 : decode cX5_wet 10 = .ok (.iload_n 1, 1) := by decide +kernel
theorem dX5_wet_11 : decode cX5_wet 11 = .ok (.i2l, 1) := by decide +kernel
theorem dX5_wet_12 : decode cX5_wet 12 = .ok (.lconst 0, 1) := by decide +kernel
theorem dX5_wet_13 : decode cX5_wet 13 = .ok (.aload_n 0, 1) := by decide +kernel
theorem dX5_wet_14 : decode cX5_wet 14 = .ok (.getfield 41, 3) := by decide +kernel
theorem dX5_wet_17 : decode cX5_wet 17 = .ok (.iconst 0, 1) := by decide +kernel
theorem dX5_wet_18 : decode cX5_wet 18 = .ok (.iaload, 1) := by decide +kernel
theorem dX5_wet_19 : decode cX5_wet 19 = .ok (.i2l, 1) := by decide +kernel
theorem dX5_wet_20 : decode cX5_wet 20 = .ok (.invokestatic 70, 3) := by decide +kernel
theorem dX5_wet_23 : decode cX5_wet 23 = .ok (.ifCond .eq 12, 3) := by decide +kernel
theorem dX5_wet_26 : decode cX5_wet 26 = .ok (.aload_n 0, 1) := by decide +kernel
theorem dX5_wet_27 : decode cX5_wet 27 = .ok (.getfield 62, 3) := by decide +kernel
theorem dX5_wet_30 : decode cX5_wet 30 = .ok (.iload_n 1, 1) := by decide +kernel
theorem dX5_wet_31 : decode cX5_wet 31 = .ok (.iaload, 1) := by decide +kernel
theorem dX5_wet_32 : decode cX5_wet 32 = .ok (.goto 4, 3) := by decide +kernel
theorem dX5_wet_35 : decode cX5_wet 35 = .ok (.iconst (-1), 1) := by decide +kernel
theorem dX5_wet_36 : decode cX5_wet 36 = .ok (.ireturn, 1) := by decide +kernel
theorem dX5_firstFallen_0 : decode cX5_firstFallen 0 = .ok (.aload_n 0, 1) := by decide +kernel
theorem dX5_firstFallen_1 : decode cX5_firstFallen 1 = .ok (.getfield 76, 3) := by decide +kernel
theorem dX5_firstFallen_4 : decode cX5_firstFallen 4 = .ok (.ifCond .eq 11, 3) := by decide +kernel
theorem dX5_firstFallen_7 : decode cX5_firstFallen 7 = .ok (.aload_n 0, 1) := by decide +kernel
theorem dX5_firstFallen_8 : decode cX5_firstFallen 8 = .ok (.iconst 0, 1) := by decide +kernel
theorem dX5_firstFallen_9 : decode cX5_firstFallen 9 = .ok (.invokevirtual 141, 3) := by decide +kernel
theorem dX5_firstFallen_12 : decode cX5_firstFallen 12 = .ok (.goto 5, 3) := by decide +kernel
theorem dX5_firstFallen_15 : decode cX5_firstFallen 15 = .ok (.bipush (-3), 2) := by decide +kernel
theorem dX5_firstFallen_17 : decode cX5_firstFallen 17 = .ok (.ireturn, 1) := by decide +kernel
theorem dX5_tries_0 : decode cX5_tries 0 = .ok (.aload_n 0, 1) := by decide +kernel
theorem dX5_tries_1 : decode cX5_tries 1 = .ok (.iconst 1, 1) := by decide +kernel
theorem dX5_tries_2 : decode cX5_tries 2 = .ok (.iload_n 2, 1) := by decide +kernel
theorem dX5_tries_3 : decode cX5_tries 3 = .ok (.invokevirtual 120, 3) := by decide +kernel
theorem dX5_tries_6 : decode cX5_tries 6 = .ok (.aload_n 0, 1) := by decide +kernel
theorem dX5_tries_7 : decode cX5_tries 7 = .ok (.iconst 1, 1) := by decide +kernel
theorem dX5_tries_8 : decode cX5_tries 8 = .ok (.invokevirtual 134, 3) := by decide +kernel
theorem dX5_tries_11 : decode cX5_tries 11 = .ok (.istore 4, 2) := by decide +kernel
theorem dX5_tries_13 : decode cX5_tries 13 = .ok (.iconst 0, 1) := by decide +kernel
theorem dX5_tries_14 : decode cX5_tries 14 = .ok (.istore 5, 2) := by decide +kernel
theorem dX5_tries_16 : decode cX5_tries 16 = .ok (.iload 5, 2) := by decide +kernel
theorem dX5_tries_18 : decode cX5_tries 18 = .ok (.iload_n 3, 1) := by decide +kernel
theorem dX5_tries_19 : decode cX5_tries 19 = .ok (.if_icmp .ge 28, 3) := by decide +kernel
theorem dX5_tries_22 : decode cX5_tries 22 = .ok (.iload 4, 2) := by decide +kernel
theorem dX5_tries_24 : decode cX5_tries 24 = .ok (.ifCond .le 23, 3) := by decide +kernel
theorem dX5_tries_27 : decode cX5_tries 27 = .ok (.aload_n 0, 1) := by decide +kernel
theorem dX5_tries_28 : decode cX5_tries 28 = .ok (.iconst 1, 1) := by decide +kernel
theorem dX5_tries_29 : decode cX5_tries 29 = .ok (.iload_n 1, 1) := by decide +kernel
theorem dX5_tries_30 : decode cX5_tries 30 = .ok (.iload_n 2, 1) := by decide +kernel
theorem dX5_tries_31 : decode cX5_tries 31 = .ok (.invokevirtual 130, 3) := by decide +kernel
theorem dX5_tries_34 : decode cX5_tries 34 = .ok (.aload_n 0, 1) := by decide +kernel
theorem dX5_tries_35 : decode cX5_tries 35 = .ok (.iconst 1, 1) := by decide +kernel
theorem dX5_tries_36 : decode cX5_tries 36 = .ok (.invokevirtual 134, 3) := by decide +kernel
theorem dX5_tries_39 : decode cX5_tries 39 = .ok (.istore 4, 2) := by decide +kernel
theorem dX5_tries_41 : decode cX5_tries 41 = .ok (.iinc 5 1, 3) := by decide +kernel
theorem dX5_tries_44 : decode cX5_tries 44 = .ok (.goto (-28), 3) := by decide +kernel
theorem dX5_tries_47 : decode cX5_tries 47 = .ok (.aload_n 0, 1) := by decide +kernel
theorem dX5_tries_48 : decode cX5_tries 48 = .ok (.iconst 1, 1) := by decide +kernel
theorem dX5_tries_49 : decode cX5_tries 49 = .ok (.invokevirtual 141, 3) := by decide +kernel
theorem dX5_tries_52 : decode cX5_tries 52 = .ok (.istore 5, 2) := by decide +kernel
theorem dX5_tries_54 : decode cX5_tries 54 = .ok (.aload_n 0, 1) := by decide +kernel
theorem dX5_tries_55 : decode cX5_tries 55 = .ok (.iconst 1, 1) := by decide +kernel
theorem dX5_tries_56 : decode cX5_tries 56 = .ok (.putfield 144, 3) := by decide +kernel
theorem dX5_tries_59 : decode cX5_tries 59 = .ok (.aload_n 0, 1) := by decide +kernel
theorem dX5_tries_60 : decode cX5_tries 60 = .ok (.getfield 65, 3) := by decide +kernel
theorem dX5_tries_63 : decode cX5_tries 63 = .ok (.iconst 0, 1) := by decide +kernel
theorem dX5_tries_64 : decode cX5_tries 64 = .ok (.aload_n 0, 1) := by decide +kernel
theorem dX5_tries_65 : decode cX5_tries 65 = .ok (.getfield 41, 3) := by decide +kernel
theorem dX5_tries_68 : decode cX5_tries 68 = .ok (.iconst 1, 1) := by decide +kernel
theorem dX5_tries_69 : decode cX5_tries 69 = .ok (.iaload, 1) := by decide +kernel
theorem dX5_tries_70 : decode cX5_tries 70 = .ok (.iastore, 1) := by decide +kernel
theorem dX5_tries_71 : decode cX5_tries 71 = .ok (.aload_n 0, 1) := by decide +kernel
theorem dX5_tries_72 : decode cX5_tries 72 = .ok (.getfield 65, 3) := by decide +kernel
theorem dX5_tries_75 : decode cX5_tries 75 = .ok (.iconst 1, 1) := by decide +kernel
theorem dX5_tries_76 : decode cX5_tries 76 = .ok (.iload 5, 2) := by decide +kernel
theorem dX5_tries_78 : decode cX5_tries 78 = .ok (.iastore, 1) := by decide +kernel
theorem dX5_tries_79 : decode cX5_tries 79 = .ok (.aload_n 0, 1) := by decide +kernel
theorem dX5_tries_80 : decode cX5_tries 80 = .ok (.getfield 65, 3) := by decide +kernel
theorem dX5_tries_83 : decode cX5_tries 83 = .ok (.iconst 2, 1) := by decide +kernel
theorem dX5_tries_84 : decode cX5_tries 84 = .ok (.iload 5, 2) := by decide +kernel
theorem dX5_tries_86 : decode cX5_tries 86 = .ok (.ifCond .ge 8, 3) := by decide +kernel
theorem dX5_tries_89 : decode cX5_tries 89 = .ok (.bipush (-6), 2) := by decide +kernel
theorem dX5_tries_91 : decode cX5_tries 91 = .ok (.goto 13, 3) := by decide +kernel
theorem dX5_tries_94 : decode cX5_tries 94 = .ok (.aload_n 0, 1) := by decide +kernel
theorem dX5_tries_95 : decode cX5_tries 95 = .ok (.getfield 35, 3) := by decide +kernel
theorem dX5_tries_98 : decode cX5_tries 98 = .ok (.bipush 24, 2) := by decide +kernel
theorem dX5_tries_100 : decode cX5_tries 100 = .ok (.iload 5, 2) := by decide +kernel
theorem dX5_tries_102 : decode cX5_tries 102 = .ok (.iadd, 1) := by decide +kernel
theorem dX5_tries_103 : decode cX5_tries 103 = .ok (.iaload, 1) := by decide +kernel
theorem dX5_tries_104 : decode cX5_tries 104 = .ok (.iastore, 1) := by decide +kernel
theorem dX5_tries_105 : decode cX5_tries 105 = .ok (.aload_n 0, 1) := by decide +kernel
theorem dX5_tries_106 : decode cX5_tries 106 = .ok (.getfield 65, 3) := by decide +kernel
theorem dX5_tries_109 : decode cX5_tries 109 = .ok (.iconst 3, 1) := by decide +kernel
theorem dX5_tries_110 : decode cX5_tries 110 = .ok (.aload_n 0, 1) := by decide +kernel
theorem dX5_tries_111 : decode cX5_tries 111 = .ok (.getfield 47, 3) := by decide +kernel
theorem dX5_tries_114 : decode cX5_tries 114 = .ok (.iconst 1, 1) := by decide +kernel
theorem dX5_tries_115 : decode cX5_tries 115 = .ok (.iaload, 1) := by decide +kernel
theorem dX5_tries_116 : decode cX5_tries 116 = .ok (.iastore, 1) := by decide +kernel
theorem dX5_tries_117 : decode cX5_tries 117 = .ok (.aload_n 0, 1) := by decide +kernel
theorem dX5_tries_118 : decode cX5_tries 118 = .ok (.getfield 65, 3) := by decide +kernel
theorem dX5_tries_121 : decode cX5_tries 121 = .ok (.iconst 4, 1) := by decide +kernel
theorem dX5_tries_122 : decode cX5_tries 122 = .ok (.iload 4, 2) := by decide +kernel
theorem dX5_tries_124 : decode cX5_tries 124 = .ok (.iastore, 1) := by decide +kernel
theorem dX5_tries_125 : decode cX5_tries 125 = .ok (.iload 5, 2) := by decide +kernel
theorem dX5_tries_127 : decode cX5_tries 127 = .ok (.ifCond .ge 7, 3) := by decide +kernel
theorem dX5_tries_130 : decode cX5_tries 130 = .ok (.iconst 1, 1) := by decide +kernel
theorem dX5_tries_131 : decode cX5_tries 131 = .ok (.goto 4, 3) := by decide +kernel
theorem dX5_tries_134 : decode cX5_tries 134 = .ok (.iconst 0, 1) := by decide +kernel
theorem dX5_tries_135 : decode cX5_tries 135 = .ok (.ireturn, 1) := by decide +kernel
theorem dX5_trial_0 : decode cX5_trial 0 = .ok (.iload_n 1, 1) := by decide +kernel
theorem dX5_trial_1 : decode cX5_trial 1 = .ok (.i2l, 1) := by decide +kernel
theorem dX5_trial_2 : decode cX5_trial 2 = .ok (.ldc2_w 96, 3) := by decide +kernel
theorem dX5_trial_5 : decode cX5_trial 5 = .ok (.ldc2_w 124, 3) := by decide +kernel
theorem dX5_trial_8 : decode cX5_trial 8 = .ok (.invokestatic 70, 3) := by decide +kernel
theorem dX5_trial_11 : decode cX5_trial 11 = .ok (.ifCond .eq 31, 3) := by decide +kernel
theorem dX5_trial_14 : decode cX5_trial 14 = .ok (.iload_n 2, 1) := by decide +kernel
theorem dX5_trial_15 : decode cX5_trial 15 = .ok (.i2l, 1) := by decide +kernel
theorem dX5_trial_16 : decode cX5_trial 16 = .ok (.lconst 0, 1) := by decide +kernel
theorem dX5_trial_17 : decode cX5_trial 17 = .ok (.ldc2_w 126, 3) := by decide +kernel
theorem dX5_trial_20 : decode cX5_trial 20 = .ok (.invokestatic 70, 3) := by decide +kernel
theorem dX5_trial_23 : decode cX5_trial 23 = .ok (.ifCond .eq 19, 3) := by decide +kernel
theorem dX5_trial_26 : decode cX5_trial 26 = .ok (.iload_n 3, 1) := by decide +kernel
theorem dX5_trial_27 : decode cX5_trial 27 = .ok (.i2l, 1) := by decide +kernel
theorem dX5_trial_28 : decode cX5_trial 28 = .ok (.lconst 1, 1) := by decide +kernel
theorem dX5_trial_29 : decode cX5_trial 29 = .ok (.ldc2_w 101, 3) := by decide +kernel
theorem dX5_trial_32 : decode cX5_trial 32 = .ok (.invokestatic 70, 3) := by decide +kernel
theorem dX5_trial_35 : decode cX5_trial 35 = .ok (.ifCond .eq 7, 3) := by decide +kernel
theorem dX5_trial_38 : decode cX5_trial 38 = .ok (.iconst 1, 1) := by decide +kernel
theorem dX5_trial_39 : decode cX5_trial 39 = .ok (.goto 4, 3) := by decide +kernel
theorem dX5_trial_42 : decode cX5_trial 42 = .ok (.iconst 0, 1) := by decide +kernel
theorem dX5_trial_43 : decode cX5_trial 43 = .ok (.istore 4, 2) := by decide +kernel
theorem dX5_trial_45 : decode cX5_trial 45 = .ok (.iload 4, 2) := by decide +kernel
theorem dX5_trial_47 : decode cX5_trial 47 = .ok (.ifCond .eq 13, 3) := by decide +kernel
theorem dX5_trial_50 : decode cX5_trial 50 = .ok (.aload_n 0, 1) := by decide +kernel
theorem dX5_trial_51 : decode cX5_trial 51 = .ok (.iload_n 1, 1) := by decide +kernel
theorem dX5_trial_52 : decode cX5_trial 52 = .ok (.iload_n 2, 1) := by decide +kernel
theorem dX5_trial_53 : decode cX5_trial 53 = .ok (.iload_n 3, 1) := by decide +kernel
theorem dX5_trial_54 : decode cX5_trial 54 = .ok (.invokevirtual 147, 3) := by decide +kernel
theorem dX5_trial_57 : decode cX5_trial 57 = .ok (.goto 5, 3) := by decide +kernel
theorem dX5_trial_60 : decode cX5_trial 60 = .ok (.bipush (-2), 2) := by decide +kernel
theorem dX5_trial_62 : decode cX5_trial 62 = .ok (.ireturn, 1) := by decide +kernel
theorem dX5_tried_0 : decode cX5_tried 0 = .ok (.iload_n 1, 1) := by decide +kernel
theorem dX5_tried_1 : decode cX5_tried 1 = .ok (.i2l, 1) := by decide +kernel
theorem dX5_tried_2 : decode cX5_tried 2 = .ok (.lconst 0, 1) := by decide +kernel
theorem dX5_tried_3 : decode cX5_tried 3 = .ok (.ldc2_w 68, 3) := by decide +kernel
theorem dX5_tried_6 : decode cX5_tried 6 = .ok (.invokestatic 70, 3) := by decide +kernel
theorem dX5_tried_9 : decode cX5_tried 9 = .ok (.ifCond .ne 6, 3) := by decide +kernel
theorem dX5_tried_12 : decode cX5_tried 12 = .ok (.bipush (-2), 2) := by decide +kernel
theorem dX5_tried_14 : decode cX5_tried 14 = .ok (.ireturn, 1) := by decide +kernel
theorem dX5_tried_15 : decode cX5_tried 15 = .ok (.aload_n 0, 1) := by decide +kernel
theorem dX5_tried_16 : decode cX5_tried 16 = .ok (.getfield 144, 3) := by decide +kernel
theorem dX5_tried_19 : decode cX5_tried 19 = .ok (.ifCond .eq 12, 3) := by decide +kernel
theorem dX5_tried_22 : decode cX5_tried 22 = .ok (.aload_n 0, 1) := by decide +kernel
theorem dX5_tried_23 : decode cX5_tried 23 = .ok (.getfield 65, 3) := by decide +kernel
theorem dX5_tried_26 : decode cX5_tried 26 = .ok (.iload_n 1, 1) := by decide +kernel
theorem dX5_tried_27 : decode cX5_tried 27 = .ok (.iaload, 1) := by decide +kernel
theorem dX5_tried_28 : decode cX5_tried 28 = .ok (.goto 5, 3) := by decide +kernel
theorem dX5_tried_31 : decode cX5_tried 31 = .ok (.bipush (-3), 2) := by decide +kernel
theorem dX5_tried_33 : decode cX5_tried 33 = .ok (.ireturn, 1) := by decide +kernel
theorem dX5_edge_0 : decode cX5_edge 0 = .ok (.iload_n 1, 1) := by decide +kernel
theorem dX5_edge_1 : decode cX5_edge 1 = .ok (.i2l, 1) := by decide +kernel
theorem dX5_edge_2 : decode cX5_edge 2 = .ok (.lconst 0, 1) := by decide +kernel
theorem dX5_edge_3 : decode cX5_edge 3 = .ok (.ldc2_w 126, 3) := by decide +kernel
theorem dX5_edge_6 : decode cX5_edge 6 = .ok (.invokestatic 70, 3) := by decide +kernel
theorem dX5_edge_9 : decode cX5_edge 9 = .ok (.ifCond .eq 15, 3) := by decide +kernel
theorem dX5_edge_12 : decode cX5_edge 12 = .ok (.iload_n 2, 1) := by decide +kernel
theorem dX5_edge_13 : decode cX5_edge 13 = .ok (.i2l, 1) := by decide +kernel
theorem dX5_edge_14 : decode cX5_edge 14 = .ok (.lconst 1, 1) := by decide +kernel
theorem dX5_edge_15 : decode cX5_edge 15 = .ok (.ldc2_w 101, 3) := by decide +kernel
theorem dX5_edge_18 : decode cX5_edge 18 = .ok (.invokestatic 70, 3) := by decide +kernel
theorem dX5_edge_21 : decode cX5_edge 21 = .ok (.ifCond .ne 7, 3) := by decide +kernel
theorem dX5_edge_24 : decode cX5_edge 24 = .ok (.sipush (-10002), 3) := by decide +kernel
theorem dX5_edge_27 : decode cX5_edge 27 = .ok (.ireturn, 1) := by decide +kernel
theorem dX5_edge_28 : decode cX5_edge 28 = .ok (.sipush (-600), 3) := by decide +kernel
theorem dX5_edge_31 : decode cX5_edge 31 = .ok (.istore_n 3, 1) := by decide +kernel
theorem dX5_edge_32 : decode cX5_edge 32 = .ok (.iload_n 3, 1) := by decide +kernel
theorem dX5_edge_33 : decode cX5_edge 33 = .ok (.sipush 400, 3) := by decide +kernel
theorem dX5_edge_36 : decode cX5_edge 36 = .ok (.if_icmp .gt 37, 3) := by decide +kernel
theorem dX5_edge_39 : decode cX5_edge 39 = .ok (.aload_n 0, 1) := by decide +kernel
theorem dX5_edge_40 : decode cX5_edge 40 = .ok (.iload_n 3, 1) := by decide +kernel
theorem dX5_edge_41 : decode cX5_edge 41 = .ok (.iload_n 1, 1) := by decide +kernel
theorem dX5_edge_42 : decode cX5_edge 42 = .ok (.iload_n 2, 1) := by decide +kernel
theorem dX5_edge_43 : decode cX5_edge 43 = .ok (.invokevirtual 147, 3) := by decide +kernel
theorem dX5_edge_46 : decode cX5_edge 46 = .ok (.ifCond .ne 21, 3) := by decide +kernel
theorem dX5_edge_49 : decode cX5_edge 49 = .ok (.iload_n 3, 1) := by decide +kernel
theorem dX5_edge_50 : decode cX5_edge 50 = .ok (.sipush (-600), 3) := by decide +kernel
theorem dX5_edge_53 : decode cX5_edge 53 = .ok (.if_icmp .ne 9, 3) := by decide +kernel
theorem dX5_edge_56 : decode cX5_edge 56 = .ok (.sipush (-10000), 3) := by decide +kernel
theorem dX5_edge_59 : decode cX5_edge 59 = .ok (.goto 7, 3) := by decide +kernel
theorem dX5_edge_62 : decode cX5_edge 62 = .ok (.iload_n 3, 1) := by decide +kernel
theorem dX5_edge_63 : decode cX5_edge 63 = .ok (.bipush 50, 2) := by decide +kernel
theorem dX5_edge_65 : decode cX5_edge 65 = .ok (.isub, 1) := by decide +kernel
theorem dX5_edge_66 : decode cX5_edge 66 = .ok (.ireturn, 1) := by decide +kernel
theorem dX5_edge_67 : decode cX5_edge 67 = .ok (.iinc 3 50, 3) := by decide +kernel
theorem dX5_edge_70 : decode cX5_edge 70 = .ok (.goto (-38), 3) := by decide +kernel
theorem dX5_edge_73 : decode cX5_edge 73 = .ok (.sipush 400, 3) := by decide +kernel
theorem dX5_edge_76 : decode cX5_edge 76 = .ok (.ireturn, 1) := by decide +kernel
theorem dX5_told_0 : decode cX5_told 0 = .ok (.iload_n 1, 1) := by decide +kernel
theorem dX5_told_1 : decode cX5_told 1 = .ok (.i2l, 1) := by decide +kernel
theorem dX5_told_2 : decode cX5_told 2 = .ok (.ldc2_w 84, 3) := by decide +kernel
theorem dX5_told_5 : decode cX5_told 5 = .ok (.ldc2_w 150, 3) := by decide +kernel
theorem dX5_told_8 : decode cX5_told 8 = .ok (.invokestatic 70, 3) := by decide +kernel
theorem dX5_told_11 : decode cX5_told 11 = .ok (.ifCond .eq 13, 3) := by decide +kernel
theorem dX5_told_14 : decode cX5_told 14 = .ok (.aload_n 0, 1) := by decide +kernel
theorem dX5_told_15 : decode cX5_told 15 = .ok (.getfield 16, 3) := by decide +kernel
theorem dX5_told_18 : decode cX5_told 18 = .ok (.iload_n 1, 1) := by decide +kernel
theorem dX5_told_19 : decode cX5_told 19 = .ok (.bipush 10, 2) := by decide +kernel
theorem dX5_told_21 : decode cX5_told 21 = .ok (.isub, 1) := by decide +kernel
theorem dX5_told_22 : decode cX5_told 22 = .ok (.iaload, 1) := by decide +kernel
theorem dX5_told_23 : decode cX5_told 23 = .ok (.ireturn, 1) := by decide +kernel
theorem dX5_told_24 : decode cX5_told 24 = .ok (.iload_n 1, 1) := by decide +kernel
theorem dX5_told_25 : decode cX5_told 25 = .ok (.tableswitch 59 0 3 #[31, 36, 41, 46], 31) := by decide +kernel
theorem dX5_told_56 : decode cX5_told 56 = .ok (.aload_n 0, 1) := by decide +kernel
theorem dX5_told_57 : decode cX5_told 57 = .ok (.getfield 7, 3) := by decide +kernel
theorem dX5_told_60 : decode cX5_told 60 = .ok (.ireturn, 1) := by decide +kernel
theorem dX5_told_61 : decode cX5_told 61 = .ok (.aload_n 0, 1) := by decide +kernel
theorem dX5_told_62 : decode cX5_told 62 = .ok (.getfield 13, 3) := by decide +kernel
theorem dX5_told_65 : decode cX5_told 65 = .ok (.ireturn, 1) := by decide +kernel
theorem dX5_told_66 : decode cX5_told 66 = .ok (.aload_n 0, 1) := by decide +kernel
theorem dX5_told_67 : decode cX5_told 67 = .ok (.invokevirtual 80, 3) := by decide +kernel
theorem dX5_told_70 : decode cX5_told 70 = .ok (.ireturn, 1) := by decide +kernel
theorem dX5_told_71 : decode cX5_told 71 = .ok (.aload_n 0, 1) := by decide +kernel
theorem dX5_told_72 : decode cX5_told 72 = .ok (.getfield 76, 3) := by decide +kernel
theorem dX5_told_75 : decode cX5_told 75 = .ok (.ifCond .eq 7, 3) := by decide +kernel
theorem dX5_told_78 : decode cX5_told 78 = .ok (.iconst 1, 1) := by decide +kernel
theorem dX5_told_79 : decode cX5_told 79 = .ok (.goto 4, 3) := by decide +kernel
theorem dX5_told_82 : decode cX5_told 82 = .ok (.iconst 0, 1) := by decide +kernel
theorem dX5_told_83 : decode cX5_told 83 = .ok (.ireturn, 1) := by decide +kernel
theorem dX5_told_84 : decode cX5_told 84 = .ok (.sipush (-10002), 3) := by decide +kernel
theorem dX5_told_87 : decode cX5_told 87 = .ok (.ireturn, 1) := by decide +kernel
end
section
theorem dL_law_0 : decode cL_law 0 = .ok (.new 7, 3) := by decide +kernel
theorem dL_law_3 : decode cL_law 3 = .ok (.dup, 1) := by decide +kernel
theorem dL_law_4 : decode cL_law 4 = .ok (.invokespecial 9, 3) := by decide +kernel
theorem dL_law_7 : decode cL_law 7 = .ok (.astore_n 1, 1) := by decide +kernel
theorem dL_law_8 : decode cL_law 8 = .ok (.new 10, 3) := by decide +kernel
theorem dL_law_11 : decode cL_law 11 = .ok (.dup, 1) := by decide +kernel
theorem dL_law_12 : decode cL_law 12 = .ok (.invokespecial 12, 3) := by decide +kernel
theorem dL_law_15 : decode cL_law 15 = .ok (.astore_n 2, 1) := by decide +kernel
theorem dL_law_16 : decode cL_law 16 = .ok (.iconst 0, 1) := by decide +kernel
theorem dL_law_17 : decode cL_law 17 = .ok (.istore_n 3, 1) := by decide +kernel
theorem dL_law_18 : decode cL_law 18 = .ok (.iload_n 3, 1) := by decide +kernel
theorem dL_law_19 : decode cL_law 19 = .ok (.aload_n 0, 1) := by decide +kernel
theorem dL_law_20 : decode cL_law 20 = .ok (.arraylength, 1) := by decide +kernel
theorem dL_law_21 : decode cL_law 21 = .ok (.iconst 4, 1) := by decide +kernel
theorem dL_law_22 : decode cL_law 22 = .ok (.isub, 1) := by decide +kernel
theorem dL_law_23 : decode cL_law 23 = .ok (.if_icmp .gt 641, 3) := by decide +kernel
theorem dL_law_26 : decode cL_law 26 = .ok (.aload_n 0, 1) := by decide +kernel
theorem dL_law_27 : decode cL_law 27 = .ok (.iload_n 3, 1) := by decide +kernel
theorem dL_law_28 : decode cL_law 28 = .ok (.iaload, 1) := by decide +kernel
theorem dL_law_29 : decode cL_law 29 = .ok (.bipush 31, 2) := by decide +kernel
theorem dL_law_31 : decode cL_law 31 = .ok (.iand, 1) := by decide +kernel
theorem dL_law_32 : decode cL_law 32 = .ok (.tableswitch 626 0 19 #[96, 129, 162, 185, 228, 251, 264, 287, 310, 333, 346, 379, 402, 435, 468, 491, 504, 547, 570, 603], 96) := by decide +kernel
theorem dL_law_128 : decode cL_law 128 = .ok (.aload_n 1, 1) := by decide +kernel
theorem dL_law_129 : decode cL_law 129 = .ok (.aload_n 0, 1) := by decide +kernel
theorem dL_law_130 : decode cL_law 130 = .ok (.iload_n 3, 1) := by decide +kernel
theorem dL_law_131 : decode cL_law 131 = .ok (.iconst 1, 1) := by decide +kernel
theorem dL_law_132 : decode cL_law 132 = .ok (.iadd, 1) := by decide +kernel
theorem dL_law_133 : decode cL_law 133 = .ok (.iaload, 1) := by decide +kernel
theorem dL_law_134 : decode cL_law 134 = .ok (.aload_n 0, 1) := by decide +kernel
theorem dL_law_135 : decode cL_law 135 = .ok (.iload_n 3, 1) := by decide +kernel
theorem dL_law_136 : decode cL_law 136 = .ok (.iconst 2, 1) := by decide +kernel
theorem dL_law_137 : decode cL_law 137 = .ok (.iadd, 1) := by decide +kernel
theorem dL_law_138 : decode cL_law 138 = .ok (.iaload, 1) := by decide +kernel
theorem dL_law_139 : decode cL_law 139 = .ok (.invokevirtual 13, 3) := by decide +kernel
theorem dL_law_142 : decode cL_law 142 = .ok (.aload_n 2, 1) := by decide +kernel
theorem dL_law_143 : decode cL_law 143 = .ok (.aload_n 0, 1) := by decide +kernel
theorem dL_law_144 : decode cL_law 144 = .ok (.iload_n 3, 1) := by decide +kernel
theorem dL_law_145 : decode cL_law 145 = .ok (.iconst 1, 1) := by decide +kernel
theorem dL_law_146 : decode cL_law 146 = .ok (.iadd, 1) := by decide +kernel
theorem dL_law_147 : decode cL_law 147 = .ok (.iaload, 1) := by decide +kernel
theorem dL_law_148 : decode cL_law 148 = .ok (.aload_n 0, 1) := by decide +kernel
theorem dL_law_149 : decode cL_law 149 = .ok (.iload_n 3, 1) := by decide +kernel
theorem dL_law_150 : decode cL_law 150 = .ok (.iconst 2, 1) := by decide +kernel
theorem dL_law_151 : decode cL_law 151 = .ok (.iadd, 1) := by decide +kernel
theorem dL_law_152 : decode cL_law 152 = .ok (.iaload, 1) := by decide +kernel
theorem dL_law_153 : decode cL_law 153 = .ok (.invokevirtual 17, 3) := by decide +kernel
theorem dL_law_156 : decode cL_law 156 = .ok (.if_icmp .eq 502, 3) := by decide +kernel
theorem dL_law_159 : decode cL_law 159 = .ok (.iconst 0, 1) := by decide +kernel
theorem dL_law_160 : decode cL_law 160 = .ok (.ireturn, 1) := by decide +kernel
theorem dL_law_161 : decode cL_law 161 = .ok (.aload_n 1, 1) := by decide +kernel
theorem dL_law_162 : decode cL_law 162 = .ok (.aload_n 0, 1) := by decide +kernel
theorem dL_law_163 : decode cL_law 163 = .ok (.iload_n 3, 1) := by decide +kernel
theorem dL_law_164 : decode cL_law 164 = .ok (.iconst 1, 1) := by decide +kernel
theorem dL_law_165 : decode cL_law 165 = .ok (.iadd, 1) := by decide +kernel
theorem dL_law_166 : decode cL_law 166 = .ok (.iaload, 1) := by decide +kernel
theorem dL_law_167 : decode cL_law 167 = .ok (.aload_n 0, 1) := by decide +kernel
theorem dL_law_168 : decode cL_law 168 = .ok (.iload_n 3, 1) := by decide +kernel
theorem dL_law_169 : decode cL_law 169 = .ok (.iconst 2, 1) := by decide +kernel
theorem dL_law_170 : decode cL_law 170 = .ok (.iadd, 1) := by decide +kernel
theorem dL_law_171 : decode cL_law 171 = .ok (.iaload, 1) := by decide +kernel
theorem dL_law_172 : decode cL_law 172 = .ok (.invokevirtual 18, 3) := by decide +kernel
theorem dL_law_175 : decode cL_law 175 = .ok (.aload_n 2, 1) := by decide +kernel
theorem dL_law_176 : decode cL_law 176 = .ok (.aload_n 0, 1) := by decide +kernel
theorem dL_law_177 : decode cL_law 177 = .ok (.iload_n 3, 1) := by decide +kernel
theorem dL_law_178 : decode cL_law 178 = .ok (.iconst 1, 1) := by decide +kernel
theorem dL_law_179 : decode cL_law 179 = .ok (.iadd, 1) := by decide +kernel
theorem dL_law_180 : decode cL_law 180 = .ok (.iaload, 1) := by decide +kernel
theorem dL_law_181 : decode cL_law 181 = .ok (.aload_n 0, 1) := by decide +kernel
theorem dL_law_182 : decode cL_law 182 = .ok (.iload_n 3, 1) := by decide +kernel
theorem dL_law_183 : decode cL_law 183 = .ok (.iconst 2, 1) := by decide +kernel
theorem dL_law_184 : decode cL_law 184 = .ok (.iadd, 1) := by decide +kernel
theorem dL_law_185 : decode cL_law 185 = .ok (.iaload, 1) := by decide +kernel
theorem dL_law_186 : decode cL_law 186 = .ok (.invokevirtual 21, 3) := by decide +kernel
theorem dL_law_189 : decode cL_law 189 = .ok (.if_icmp .eq 469, 3) := by decide +kernel
theorem dL_law_192 : decode cL_law 192 = .ok (.iconst 0, 1) := by decide +kernel
theorem dL_law_193 : decode cL_law 193 = .ok (.ireturn, 1) := by decide +kernel
theorem dL_law_194 : decode cL_law 194 = .ok (.aload_n 1, 1) := by decide +kernel
theorem dL_law_195 : decode cL_law 195 = .ok (.aload_n 0, 1) := by decide +kernel
theorem dL_law_196 : decode cL_law 196 = .ok (.iload_n 3, 1) := by decide +kernel
theorem dL_law_197 : decode cL_law 197 = .ok (.iconst 1, 1) := by decide +kernel
theorem dL_law_198 : decode cL_law 198 = .ok (.iadd, 1) := by decide +kernel
theorem dL_law_199 : decode cL_law 199 = .ok (.iaload, 1) := by decide +kernel
theorem dL_law_200 : decode cL_law 200 = .ok (.invokevirtual 22, 3) := by decide +kernel
theorem dL_law_203 : decode cL_law 203 = .ok (.aload_n 2, 1) := by decide +kernel
theorem dL_law_204 : decode cL_law 204 = .ok (.aload_n 0, 1) := by decide +kernel
theorem dL_law_205 : decode cL_law 205 = .ok (.iload_n 3, 1) := by decide +kernel
theorem dL_law_206 : decode cL_law 206 = .ok (.iconst 1, 1) := by decide +kernel
theorem dL_law_207 : decode cL_law 207 = .ok (.iadd, 1) := by decide +kernel
theorem dL_law_208 : decode cL_law 208 = .ok (.iaload, 1) := by decide +kernel
theorem dL_law_209 : decode cL_law 209 = .ok (.invokevirtual 26, 3) := by decide +kernel
theorem dL_law_212 : decode cL_law 212 = .ok (.if_icmp .eq 446, 3) := by decide +kernel
theorem dL_law_215 : decode cL_law 215 = .ok (.iconst 0, 1) := by decide +kernel
theorem dL_law_216 : decode cL_law 216 = .ok (.ireturn, 1) := by decide +kernel
theorem dL_law_217 : decode cL_law 217 = .ok (.aload_n 1, 1) := by decide +kernel
theorem dL_law_218 : decode cL_law 218 = .ok (.aload_n 0, 1) := by decide +kernel
theorem dL_law_219 : decode cL_law 219 = .ok (.iload_n 3, 1) := by decide +kernel
theorem dL_law_220 : decode cL_law 220 = .ok (.iconst 1, 1) := by decide +kernel
theorem dL_law_221 : decode cL_law 221 = .ok (.iadd, 1) := by decide +kernel
theorem dL_law_222 : decode cL_law 222 = .ok (.iaload, 1) := by decide +kernel
theorem dL_law_223 : decode cL_law 223 = .ok (.aload_n 0, 1) := by decide +kernel
theorem dL_law_224 : decode cL_law 224 = .ok (.iload_n 3, 1) := by decide +kernel
theorem dL_law_225 : decode cL_law 225 = .ok (.iconst 2, 1) := by decide +kernel
theorem dL_law_226 : decode cL_law 226 = .ok (.iadd, 1) := by decide +kernel
theorem dL_law_227 : decode cL_law 227 = .ok (.iaload, 1) := by decide +kernel
theorem dL_law_228 : decode cL_law 228 = .ok (.aload_n 0, 1) := by decide +kernel
theorem dL_law_229 : decode cL_law 229 = .ok (.iload_n 3, 1) := by decide +kernel
theorem dL_law_230 : decode cL_law 230 = .ok (.iconst 3, 1) := by decide +kernel
theorem dL_law_231 : decode cL_law 231 = .ok (.iadd, 1) := by decide +kernel
theorem dL_law_232 : decode cL_law 232 = .ok (.iaload, 1) := by decide +kernel
theorem dL_law_233 : decode cL_law 233 = .ok (.invokevirtual 27, 3) := by decide +kernel
theorem dL_law_236 : decode cL_law 236 = .ok (.aload_n 2, 1) := by decide +kernel
theorem dL_law_237 : decode cL_law 237 = .ok (.aload_n 0, 1) := by decide +kernel
theorem dL_law_238 : decode cL_law 238 = .ok (.iload_n 3, 1) := by decide +kernel
theorem dL_law_239 : decode cL_law 239 = .ok (.iconst 1, 1) := by decide +kernel
theorem dL_law_240 : decode cL_law 240 = .ok (.iadd, 1) := by decide +kernel
theorem dL_law_241 : decode cL_law 241 = .ok (.iaload, 1) := by decide +kernel
theorem dL_law_242 : decode cL_law 242 = .ok (.aload_n 0, 1) := by decide +kernel
theorem dL_law_243 : decode cL_law 243 = .ok (.iload_n 3, 1) := by decide +kernel
theorem dL_law_244 : decode cL_law 244 = .ok (.iconst 2, 1) := by decide +kernel
theorem dL_law_245 : decode cL_law 245 = .ok (.iadd, 1) := by decide +kernel
theorem dL_law_246 : decode cL_law 246 = .ok (.iaload, 1) := by decide +kernel
theorem dL_law_247 : decode cL_law 247 = .ok (.aload_n 0, 1) := by decide +kernel
theorem dL_law_248 : decode cL_law 248 = .ok (.iload_n 3, 1) := by decide +kernel
theorem dL_law_249 : decode cL_law 249 = .ok (.iconst 3, 1) := by decide +kernel
theorem dL_law_250 : decode cL_law 250 = .ok (.iadd, 1) := by decide +kernel
theorem dL_law_251 : decode cL_law 251 = .ok (.iaload, 1) := by decide +kernel
theorem dL_law_252 : decode cL_law 252 = .ok (.invokevirtual 31, 3) := by decide +kernel
theorem dL_law_255 : decode cL_law 255 = .ok (.if_icmp .eq 403, 3) := by decide +kernel
theorem dL_law_258 : decode cL_law 258 = .ok (.iconst 0, 1) := by decide +kernel
theorem dL_law_259 : decode cL_law 259 = .ok (.ireturn, 1) := by decide +kernel
theorem dL_law_260 : decode cL_law 260 = .ok (.aload_n 1, 1) := by decide +kernel
theorem dL_law_261 : decode cL_law 261 = .ok (.aload_n 0, 1) := by decide +kernel
theorem dL_law_262 : decode cL_law 262 = .ok (.iload_n 3, 1) := by decide +kernel
theorem dL_law_263 : decode cL_law 263 = .ok (.iconst 1, 1) := by decide +kernel
theorem dL_law_264 : decode cL_law 264 = .ok (.iadd, 1) := by decide +kernel
theorem dL_law_265 : decode cL_law 265 = .ok (.iaload, 1) := by decide +kernel
theorem dL_law_266 : decode cL_law 266 = .ok (.invokevirtual 32, 3) := by decide +kernel
theorem dL_law_269 : decode cL_law 269 = .ok (.aload_n 2, 1) := by decide +kernel
theorem dL_law_270 : decode cL_law 270 = .ok (.aload_n 0, 1) := by decide +kernel
theorem dL_law_271 : decode cL_law 271 = .ok (.iload_n 3, 1) := by decide +kernel
theorem dL_law_272 : decode cL_law 272 = .ok (.iconst 1, 1) := by decide +kernel
theorem dL_law_273 : decode cL_law 273 = .ok (.iadd, 1) := by decide +kernel
theorem dL_law_274 : decode cL_law 274 = .ok (.iaload, 1) := by decide +kernel
theorem dL_law_275 : decode cL_law 275 = .ok (.invokevirtual 35, 3) := by decide +kernel
theorem dL_law_278 : decode cL_law 278 = .ok (.if_icmp .eq 380, 3) := by decide +kernel
theorem dL_law_281 : decode cL_law 281 = .ok (.iconst 0, 1) := by decide +kernel
theorem dL_law_282 : decode cL_law 282 = .ok (.ireturn, 1) := by decide +kernel
theorem dL_law_283 : decode cL_law 283 = .ok (.aload_n 1, 1) := by decide +kernel
theorem dL_law_284 : decode cL_law 284 = .ok (.invokevirtual 36, 3) := by decide +kernel
theorem dL_law_287 : decode cL_law 287 = .ok (.aload_n 2, 1) := by decide +kernel
theorem dL_law_288 : decode cL_law 288 = .ok (.invokevirtual 40, 3) := by decide +kernel
theorem dL_law_291 : decode cL_law 291 = .ok (.if_icmp .eq 367, 3) := by decide +kernel
theorem dL_law_294 : decode cL_law 294 = .ok (.iconst 0, 1) := by decide +kernel
theorem dL_law_295 : decode cL_law 295 = .ok (.ireturn, 1) := by decide +kernel
theorem dL_law_296 : decode cL_law 296 = .ok (.aload_n 1, 1) := by decide +kernel
theorem dL_law_297 : decode cL_law 297 = .ok (.aload_n 0, 1) := by decide +kernel
theorem dL_law_298 : decode cL_law 298 = .ok (.iload_n 3, 1) := by decide +kernel
theorem dL_law_299 : decode cL_law 299 = .ok (.iconst 1, 1) := by decide +kernel
theorem dL_law_300 : decode cL_law 300 = .ok (.iadd, 1) := by decide +kernel
theorem dL_law_301 : decode cL_law 301 = .ok (.iaload, 1) := by decide +kernel
theorem dL_law_302 : decode cL_law 302 = .ok (.invokevirtual 41, 3) := by decide +kernel
theorem dL_law_305 : decode cL_law 305 = .ok (.aload_n 2, 1) := by decide +kernel
theorem dL_law_306 : decode cL_law 306 = .ok (.aload_n 0, 1) := by decide +kernel
theorem dL_law_307 : decode cL_law 307 = .ok (.iload_n 3, 1) := by decide +kernel
theorem dL_law_308 : decode cL_law 308 = .ok (.iconst 1, 1) := by decide +kernel
theorem dL_law_309 : decode cL_law 309 = .ok (.iadd, 1) := by decide +kernel
theorem dL_law_310 : decode cL_law 310 = .ok (.iaload, 1) := by decide +kernel
theorem dL_law_311 : decode cL_law 311 = .ok (.invokevirtual 44, 3) := by decide +kernel
theorem dL_law_314 : decode cL_law 314 = .ok (.if_icmp .eq 344, 3) := by decide +kernel
theorem dL_law_317 : decode cL_law 317 = .ok (.iconst 0, 1) := by decide +kernel
theorem dL_law_318 : decode cL_law 318 = .ok (.ireturn, 1) := by decide +kernel
theorem dL_law_319 : decode cL_law 319 = .ok (.aload_n 1, 1) := by decide +kernel
theorem dL_law_320 : decode cL_law 320 = .ok (.aload_n 0, 1) := by decide +kernel
theorem dL_law_321 : decode cL_law 321 = .ok (.iload_n 3, 1) := by decide +kernel
theorem dL_law_322 : decode cL_law 322 = .ok (.iconst 1, 1) := by decide +kernel
theorem dL_law_323 : decode cL_law 323 = .ok (.iadd, 1) := by decide +kernel
theorem dL_law_324 : decode cL_law 324 = .ok (.iaload, 1) := by decide +kernel
theorem dL_law_325 : decode cL_law 325 = .ok (.invokevirtual 45, 3) := by decide +kernel
theorem dL_law_328 : decode cL_law 328 = .ok (.aload_n 2, 1) := by decide +kernel
theorem dL_law_329 : decode cL_law 329 = .ok (.aload_n 0, 1) := by decide +kernel
theorem dL_law_330 : decode cL_law 330 = .ok (.iload_n 3, 1) := by decide +kernel
theorem dL_law_331 : decode cL_law 331 = .ok (.iconst 1, 1) := by decide +kernel
theorem dL_law_332 : decode cL_law 332 = .ok (.iadd, 1) := by decide +kernel
theorem dL_law_333 : decode cL_law 333 = .ok (.iaload, 1) := by decide +kernel
theorem dL_law_334 : decode cL_law 334 = .ok (.invokevirtual 48, 3) := by decide +kernel
theorem dL_law_337 : decode cL_law 337 = .ok (.if_icmp .eq 321, 3) := by decide +kernel
theorem dL_law_340 : decode cL_law 340 = .ok (.iconst 0, 1) := by decide +kernel
theorem dL_law_341 : decode cL_law 341 = .ok (.ireturn, 1) := by decide +kernel
theorem dL_law_342 : decode cL_law 342 = .ok (.aload_n 1, 1) := by decide +kernel
theorem dL_law_343 : decode cL_law 343 = .ok (.aload_n 0, 1) := by decide +kernel
theorem dL_law_344 : decode cL_law 344 = .ok (.iload_n 3, 1) := by decide +kernel
theorem dL_law_345 : decode cL_law 345 = .ok (.iconst 1, 1) := by decide +kernel
theorem dL_law_346 : decode cL_law 346 = .ok (.iadd, 1) := by decide +kernel
theorem dL_law_347 : decode cL_law 347 = .ok (.iaload, 1) := by decide +kernel
theorem dL_law_348 : decode cL_law 348 = .ok (.invokevirtual 49, 3) := by decide +kernel
theorem dL_law_351 : decode cL_law 351 = .ok (.aload_n 2, 1) := by decide +kernel
theorem dL_law_352 : decode cL_law 352 = .ok (.aload_n 0, 1) := by decide +kernel
theorem dL_law_353 : decode cL_law 353 = .ok (.iload_n 3, 1) := by decide +kernel
theorem dL_law_354 : decode cL_law 354 = .ok (.iconst 1, 1) := by decide +kernel
theorem dL_law_355 : decode cL_law 355 = .ok (.iadd, 1) := by decide +kernel
theorem dL_law_356 : decode cL_law 356 = .ok (.iaload, 1) := by decide +kernel
theorem dL_law_357 : decode cL_law 357 = .ok (.invokevirtual 52, 3) := by decide +kernel
theorem dL_law_360 : decode cL_law 360 = .ok (.if_icmp .eq 298, 3) := by decide +kernel
theorem dL_law_363 : decode cL_law 363 = .ok (.iconst 0, 1) := by decide +kernel
theorem dL_law_364 : decode cL_law 364 = .ok (.ireturn, 1) := by decide +kernel
theorem dL_law_365 : decode cL_law 365 = .ok (.aload_n 1, 1) := by decide +kernel
theorem dL_law_366 : decode cL_law 366 = .ok (.invokevirtual 53, 3) := by decide +kernel
theorem dL_law_369 : decode cL_law 369 = .ok (.aload_n 2, 1) := by decide +kernel
theorem dL_law_370 : decode cL_law 370 = .ok (.invokevirtual 56, 3) := by decide +kernel
theorem dL_law_373 : decode cL_law 373 = .ok (.if_icmp .eq 285, 3) := by decide +kernel
theorem dL_law_376 : decode cL_law 376 = .ok (.iconst 0, 1) := by decide +kernel
theorem dL_law_377 : decode cL_law 377 = .ok (.ireturn, 1) := by decide +kernel
theorem dL_law_378 : decode cL_law 378 = .ok (.aload_n 1, 1) := by decide +kernel
theorem dL_law_379 : decode cL_law 379 = .ok (.aload_n 0, 1) := by decide +kernel
theorem dL_law_380 : decode cL_law 380 = .ok (.iload_n 3, 1) := by decide +kernel
theorem dL_law_381 : decode cL_law 381 = .ok (.iconst 1, 1) := by decide +kernel
theorem dL_law_382 : decode cL_law 382 = .ok (.iadd, 1) := by decide +kernel
theorem dL_law_383 : decode cL_law 383 = .ok (.iaload, 1) := by decide +kernel
theorem dL_law_384 : decode cL_law 384 = .ok (.aload_n 0, 1) := by decide +kernel
theorem dL_law_385 : decode cL_law 385 = .ok (.iload_n 3, 1) := by decide +kernel
theorem dL_law_386 : decode cL_law 386 = .ok (.iconst 2, 1) := by decide +kernel
theorem dL_law_387 : decode cL_law 387 = .ok (.iadd, 1) := by decide +kernel
theorem dL_law_388 : decode cL_law 388 = .ok (.iaload, 1) := by decide +kernel
theorem dL_law_389 : decode cL_law 389 = .ok (.invokevirtual 57, 3) := by decide +kernel
theorem dL_law_392 : decode cL_law 392 = .ok (.aload_n 2, 1) := by decide +kernel
theorem dL_law_393 : decode cL_law 393 = .ok (.aload_n 0, 1) := by decide +kernel
theorem dL_law_394 : decode cL_law 394 = .ok (.iload_n 3, 1) := by decide +kernel
theorem dL_law_395 : decode cL_law 395 = .ok (.iconst 1, 1) := by decide +kernel
theorem dL_law_396 : decode cL_law 396 = .ok (.iadd, 1) := by decide +kernel
theorem dL_law_397 : decode cL_law 397 = .ok (.iaload, 1) := by decide +kernel
theorem dL_law_398 : decode cL_law 398 = .ok (.aload_n 0, 1) := by decide +kernel
theorem dL_law_399 : decode cL_law 399 = .ok (.iload_n 3, 1) := by decide +kernel
theorem dL_law_400 : decode cL_law 400 = .ok (.iconst 2, 1) := by decide +kernel
theorem dL_law_401 : decode cL_law 401 = .ok (.iadd, 1) := by decide +kernel
theorem dL_law_402 : decode cL_law 402 = .ok (.iaload, 1) := by decide +kernel
theorem dL_law_403 : decode cL_law 403 = .ok (.invokevirtual 60, 3) := by decide +kernel
theorem dL_law_406 : decode cL_law 406 = .ok (.if_icmp .eq 252, 3) := by decide +kernel
theorem dL_law_409 : decode cL_law 409 = .ok (.iconst 0, 1) := by decide +kernel
theorem dL_law_410 : decode cL_law 410 = .ok (.ireturn, 1) := by decide +kernel
theorem dL_law_411 : decode cL_law 411 = .ok (.aload_n 1, 1) := by decide +kernel
theorem dL_law_412 : decode cL_law 412 = .ok (.aload_n 0, 1) := by decide +kernel
theorem dL_law_413 : decode cL_law 413 = .ok (.iload_n 3, 1) := by decide +kernel
theorem dL_law_414 : decode cL_law 414 = .ok (.iconst 1, 1) := by decide +kernel
theorem dL_law_415 : decode cL_law 415 = .ok (.iadd, 1) := by decide +kernel
theorem dL_law_416 : decode cL_law 416 = .ok (.iaload, 1) := by decide +kernel
theorem dL_law_417 : decode cL_law 417 = .ok (.invokevirtual 61, 3) := by decide +kernel
theorem dL_law_420 : decode cL_law 420 = .ok (.aload_n 2, 1) := by decide +kernel
theorem dL_law_421 : decode cL_law 421 = .ok (.aload_n 0, 1) := by decide +kernel
theorem dL_law_422 : decode cL_law 422 = .ok (.iload_n 3, 1) := by decide +kernel
theorem dL_law_423 : decode cL_law 423 = .ok (.iconst 1, 1) := by decide +kernel
theorem dL_law_424 : decode cL_law 424 = .ok (.iadd, 1) := by decide +kernel
theorem dL_law_425 : decode cL_law 425 = .ok (.iaload, 1) := by decide +kernel
theorem dL_law_426 : decode cL_law 426 = .ok (.invokevirtual 64, 3) := by decide +kernel
theorem dL_law_429 : decode cL_law 429 = .ok (.if_icmp .eq 229, 3) := by decide +kernel
theorem dL_law_432 : decode cL_law 432 = .ok (.iconst 0, 1) := by decide +kernel
theorem dL_law_433 : decode cL_law 433 = .ok (.ireturn, 1) := by decide +kernel
theorem dL_law_434 : decode cL_law 434 = .ok (.aload_n 1, 1) := by decide +kernel
theorem dL_law_435 : decode cL_law 435 = .ok (.aload_n 0, 1) := by decide +kernel
theorem dL_law_436 : decode cL_law 436 = .ok (.iload_n 3, 1) := by decide +kernel
theorem dL_law_437 : decode cL_law 437 = .ok (.iconst 1, 1) := by decide +kernel
theorem dL_law_438 : decode cL_law 438 = .ok (.iadd, 1) := by decide +kernel
theorem dL_law_439 : decode cL_law 439 = .ok (.iaload, 1) := by decide +kernel
theorem dL_law_440 : decode cL_law 440 = .ok (.aload_n 0, 1) := by decide +kernel
theorem dL_law_441 : decode cL_law 441 = .ok (.iload_n 3, 1) := by decide +kernel
theorem dL_law_442 : decode cL_law 442 = .ok (.iconst 2, 1) := by decide +kernel
theorem dL_law_443 : decode cL_law 443 = .ok (.iadd, 1) := by decide +kernel
theorem dL_law_444 : decode cL_law 444 = .ok (.iaload, 1) := by decide +kernel
theorem dL_law_445 : decode cL_law 445 = .ok (.invokevirtual 65, 3) := by decide +kernel
theorem dL_law_448 : decode cL_law 448 = .ok (.aload_n 2, 1) := by decide +kernel
theorem dL_law_449 : decode cL_law 449 = .ok (.aload_n 0, 1) := by decide +kernel
theorem dL_law_450 : decode cL_law 450 = .ok (.iload_n 3, 1) := by decide +kernel
theorem dL_law_451 : decode cL_law 451 = .ok (.iconst 1, 1) := by decide +kernel
theorem dL_law_452 : decode cL_law 452 = .ok (.iadd, 1) := by decide +kernel
theorem dL_law_453 : decode cL_law 453 = .ok (.iaload, 1) := by decide +kernel
theorem dL_law_454 : decode cL_law 454 = .ok (.aload_n 0, 1) := by decide +kernel
theorem dL_law_455 : decode cL_law 455 = .ok (.iload_n 3, 1) := by decide +kernel
theorem dL_law_456 : decode cL_law 456 = .ok (.iconst 2, 1) := by decide +kernel
theorem dL_law_457 : decode cL_law 457 = .ok (.iadd, 1) := by decide +kernel
theorem dL_law_458 : decode cL_law 458 = .ok (.iaload, 1) := by decide +kernel
theorem dL_law_459 : decode cL_law 459 = .ok (.invokevirtual 68, 3) := by decide +kernel
theorem dL_law_462 : decode cL_law 462 = .ok (.if_icmp .eq 196, 3) := by decide +kernel
theorem dL_law_465 : decode cL_law 465 = .ok (.iconst 0, 1) := by decide +kernel
theorem dL_law_466 : decode cL_law 466 = .ok (.ireturn, 1) := by decide +kernel
theorem dL_law_467 : decode cL_law 467 = .ok (.aload_n 1, 1) := by decide +kernel
theorem dL_law_468 : decode cL_law 468 = .ok (.aload_n 0, 1) := by decide +kernel
theorem dL_law_469 : decode cL_law 469 = .ok (.iload_n 3, 1) := by decide +kernel
theorem dL_law_470 : decode cL_law 470 = .ok (.iconst 1, 1) := by decide +kernel
theorem dL_law_471 : decode cL_law 471 = .ok (.iadd, 1) := by decide +kernel
theorem dL_law_472 : decode cL_law 472 = .ok (.iaload, 1) := by decide +kernel
theorem dL_law_473 : decode cL_law 473 = .ok (.aload_n 0, 1) := by decide +kernel
theorem dL_law_474 : decode cL_law 474 = .ok (.iload_n 3, 1) := by decide +kernel
theorem dL_law_475 : decode cL_law 475 = .ok (.iconst 2, 1) := by decide +kernel
theorem dL_law_476 : decode cL_law 476 = .ok (.iadd, 1) := by decide +kernel
theorem dL_law_477 : decode cL_law 477 = .ok (.iaload, 1) := by decide +kernel
theorem dL_law_478 : decode cL_law 478 = .ok (.invokevirtual 69, 3) := by decide +kernel
theorem dL_law_481 : decode cL_law 481 = .ok (.aload_n 2, 1) := by decide +kernel
theorem dL_law_482 : decode cL_law 482 = .ok (.aload_n 0, 1) := by decide +kernel
theorem dL_law_483 : decode cL_law 483 = .ok (.iload_n 3, 1) := by decide +kernel
theorem dL_law_484 : decode cL_law 484 = .ok (.iconst 1, 1) := by decide +kernel
theorem dL_law_485 : decode cL_law 485 = .ok (.iadd, 1) := by decide +kernel
theorem dL_law_486 : decode cL_law 486 = .ok (.iaload, 1) := by decide +kernel
theorem dL_law_487 : decode cL_law 487 = .ok (.aload_n 0, 1) := by decide +kernel
theorem dL_law_488 : decode cL_law 488 = .ok (.iload_n 3, 1) := by decide +kernel
theorem dL_law_489 : decode cL_law 489 = .ok (.iconst 2, 1) := by decide +kernel
theorem dL_law_490 : decode cL_law 490 = .ok (.iadd, 1) := by decide +kernel
theorem dL_law_491 : decode cL_law 491 = .ok (.iaload, 1) := by decide +kernel
theorem dL_law_492 : decode cL_law 492 = .ok (.invokevirtual 72, 3) := by decide +kernel
theorem dL_law_495 : decode cL_law 495 = .ok (.if_icmp .eq 163, 3) := by decide +kernel
theorem dL_law_498 : decode cL_law 498 = .ok (.iconst 0, 1) := by decide +kernel
theorem dL_law_499 : decode cL_law 499 = .ok (.ireturn, 1) := by decide +kernel
theorem dL_law_500 : decode cL_law 500 = .ok (.aload_n 1, 1) := by decide +kernel
theorem dL_law_501 : decode cL_law 501 = .ok (.aload_n 0, 1) := by decide +kernel
theorem dL_law_502 : decode cL_law 502 = .ok (.iload_n 3, 1) := by decide +kernel
theorem dL_law_503 : decode cL_law 503 = .ok (.iconst 1, 1) := by decide +kernel
theorem dL_law_504 : decode cL_law 504 = .ok (.iadd, 1) := by decide +kernel
theorem dL_law_505 : decode cL_law 505 = .ok (.iaload, 1) := by decide +kernel
theorem dL_law_506 : decode cL_law 506 = .ok (.invokevirtual 73, 3) := by decide +kernel
theorem dL_law_509 : decode cL_law 509 = .ok (.aload_n 2, 1) := by decide +kernel
theorem dL_law_510 : decode cL_law 510 = .ok (.aload_n 0, 1) := by decide +kernel
theorem dL_law_511 : decode cL_law 511 = .ok (.iload_n 3, 1) := by decide +kernel
theorem dL_law_512 : decode cL_law 512 = .ok (.iconst 1, 1) := by decide +kernel
theorem dL_law_513 : decode cL_law 513 = .ok (.iadd, 1) := by decide +kernel
theorem dL_law_514 : decode cL_law 514 = .ok (.iaload, 1) := by decide +kernel
theorem dL_law_515 : decode cL_law 515 = .ok (.invokevirtual 76, 3) := by decide +kernel
theorem dL_law_518 : decode cL_law 518 = .ok (.if_icmp .eq 140, 3) := by decide +kernel
theorem dL_law_521 : decode cL_law 521 = .ok (.iconst 0, 1) := by decide +kernel
theorem dL_law_522 : decode cL_law 522 = .ok (.ireturn, 1) := by decide +kernel
theorem dL_law_523 : decode cL_law 523 = .ok (.aload_n 1, 1) := by decide +kernel
theorem dL_law_524 : decode cL_law 524 = .ok (.invokevirtual 77, 3) := by decide +kernel
theorem dL_law_527 : decode cL_law 527 = .ok (.aload_n 2, 1) := by decide +kernel
theorem dL_law_528 : decode cL_law 528 = .ok (.invokevirtual 80, 3) := by decide +kernel
theorem dL_law_531 : decode cL_law 531 = .ok (.if_icmp .eq 127, 3) := by decide +kernel
theorem dL_law_534 : decode cL_law 534 = .ok (.iconst 0, 1) := by decide +kernel
theorem dL_law_535 : decode cL_law 535 = .ok (.ireturn, 1) := by decide +kernel
theorem dL_law_536 : decode cL_law 536 = .ok (.aload_n 1, 1) := by decide +kernel
theorem dL_law_537 : decode cL_law 537 = .ok (.aload_n 0, 1) := by decide +kernel
theorem dL_law_538 : decode cL_law 538 = .ok (.iload_n 3, 1) := by decide +kernel
theorem dL_law_539 : decode cL_law 539 = .ok (.iconst 1, 1) := by decide +kernel
theorem dL_law_540 : decode cL_law 540 = .ok (.iadd, 1) := by decide +kernel
theorem dL_law_541 : decode cL_law 541 = .ok (.iaload, 1) := by decide +kernel
theorem dL_law_542 : decode cL_law 542 = .ok (.aload_n 0, 1) := by decide +kernel
theorem dL_law_543 : decode cL_law 543 = .ok (.iload_n 3, 1) := by decide +kernel
theorem dL_law_544 : decode cL_law 544 = .ok (.iconst 2, 1) := by decide +kernel
theorem dL_law_545 : decode cL_law 545 = .ok (.iadd, 1) := by decide +kernel
theorem dL_law_546 : decode cL_law 546 = .ok (.iaload, 1) := by decide +kernel
theorem dL_law_547 : decode cL_law 547 = .ok (.aload_n 0, 1) := by decide +kernel
theorem dL_law_548 : decode cL_law 548 = .ok (.iload_n 3, 1) := by decide +kernel
theorem dL_law_549 : decode cL_law 549 = .ok (.iconst 3, 1) := by decide +kernel
theorem dL_law_550 : decode cL_law 550 = .ok (.iadd, 1) := by decide +kernel
theorem dL_law_551 : decode cL_law 551 = .ok (.iaload, 1) := by decide +kernel
theorem dL_law_552 : decode cL_law 552 = .ok (.invokevirtual 81, 3) := by decide +kernel
theorem dL_law_555 : decode cL_law 555 = .ok (.aload_n 2, 1) := by decide +kernel
theorem dL_law_556 : decode cL_law 556 = .ok (.aload_n 0, 1) := by decide +kernel
theorem dL_law_557 : decode cL_law 557 = .ok (.iload_n 3, 1) := by decide +kernel
theorem dL_law_558 : decode cL_law 558 = .ok (.iconst 1, 1) := by decide +kernel
theorem dL_law_559 : decode cL_law 559 = .ok (.iadd, 1) := by decide +kernel
theorem dL_law_560 : decode cL_law 560 = .ok (.iaload, 1) := by decide +kernel
theorem dL_law_561 : decode cL_law 561 = .ok (.aload_n 0, 1) := by decide +kernel
theorem dL_law_562 : decode cL_law 562 = .ok (.iload_n 3, 1) := by decide +kernel
theorem dL_law_563 : decode cL_law 563 = .ok (.iconst 2, 1) := by decide +kernel
theorem dL_law_564 : decode cL_law 564 = .ok (.iadd, 1) := by decide +kernel
theorem dL_law_565 : decode cL_law 565 = .ok (.iaload, 1) := by decide +kernel
theorem dL_law_566 : decode cL_law 566 = .ok (.aload_n 0, 1) := by decide +kernel
theorem dL_law_567 : decode cL_law 567 = .ok (.iload_n 3, 1) := by decide +kernel
theorem dL_law_568 : decode cL_law 568 = .ok (.iconst 3, 1) := by decide +kernel
theorem dL_law_569 : decode cL_law 569 = .ok (.iadd, 1) := by decide +kernel
theorem dL_law_570 : decode cL_law 570 = .ok (.iaload, 1) := by decide +kernel
theorem dL_law_571 : decode cL_law 571 = .ok (.invokevirtual 84, 3) := by decide +kernel
theorem dL_law_574 : decode cL_law 574 = .ok (.if_icmp .eq 84, 3) := by decide +kernel
theorem dL_law_577 : decode cL_law 577 = .ok (.iconst 0, 1) := by decide +kernel
theorem dL_law_578 : decode cL_law 578 = .ok (.ireturn, 1) := by decide +kernel
theorem dL_law_579 : decode cL_law 579 = .ok (.aload_n 1, 1) := by decide +kernel
theorem dL_law_580 : decode cL_law 580 = .ok (.aload_n 0, 1) := by decide +kernel
theorem dL_law_581 : decode cL_law 581 = .ok (.iload_n 3, 1) := by decide +kernel
theorem dL_law_582 : decode cL_law 582 = .ok (.iconst 1, 1) := by decide +kernel
theorem dL_law_583 : decode cL_law 583 = .ok (.iadd, 1) := by decide +kernel
theorem dL_law_584 : decode cL_law 584 = .ok (.iaload, 1) := by decide +kernel
theorem dL_law_585 : decode cL_law 585 = .ok (.invokevirtual 85, 3) := by decide +kernel
theorem dL_law_588 : decode cL_law 588 = .ok (.aload_n 2, 1) := by decide +kernel
theorem dL_law_589 : decode cL_law 589 = .ok (.aload_n 0, 1) := by decide +kernel
theorem dL_law_590 : decode cL_law 590 = .ok (.iload_n 3, 1) := by decide +kernel
theorem dL_law_591 : decode cL_law 591 = .ok (.iconst 1, 1) := by decide +kernel
theorem dL_law_592 : decode cL_law 592 = .ok (.iadd, 1) := by decide +kernel
theorem dL_law_593 : decode cL_law 593 = .ok (.iaload, 1) := by decide +kernel
theorem dL_law_594 : decode cL_law 594 = .ok (.invokevirtual 88, 3) := by decide +kernel
theorem dL_law_597 : decode cL_law 597 = .ok (.if_icmp .eq 61, 3) := by decide +kernel
theorem dL_law_600 : decode cL_law 600 = .ok (.iconst 0, 1) := by decide +kernel
theorem dL_law_601 : decode cL_law 601 = .ok (.ireturn, 1) := by decide +kernel
theorem dL_law_602 : decode cL_law 602 = .ok (.aload_n 1, 1) := by decide +kernel
theorem dL_law_603 : decode cL_law 603 = .ok (.aload_n 0, 1) := by decide +kernel
theorem dL_law_604 : decode cL_law 604 = .ok (.iload_n 3, 1) := by decide +kernel
theorem dL_law_605 : decode cL_law 605 = .ok (.iconst 1, 1) := by decide +kernel
theorem dL_law_606 : decode cL_law 606 = .ok (.iadd, 1) := by decide +kernel
theorem dL_law_607 : decode cL_law 607 = .ok (.iaload, 1) := by decide +kernel
theorem dL_law_608 : decode cL_law 608 = .ok (.aload_n 0, 1) := by decide +kernel
theorem dL_law_609 : decode cL_law 609 = .ok (.iload_n 3, 1) := by decide +kernel
theorem dL_law_610 : decode cL_law 610 = .ok (.iconst 2, 1) := by decide +kernel
theorem dL_law_611 : decode cL_law 611 = .ok (.iadd, 1) := by decide +kernel
theorem dL_law_612 : decode cL_law 612 = .ok (.iaload, 1) := by decide +kernel
theorem dL_law_613 : decode cL_law 613 = .ok (.invokevirtual 89, 3) := by decide +kernel
theorem dL_law_616 : decode cL_law 616 = .ok (.aload_n 2, 1) := by decide +kernel
theorem dL_law_617 : decode cL_law 617 = .ok (.aload_n 0, 1) := by decide +kernel
theorem dL_law_618 : decode cL_law 618 = .ok (.iload_n 3, 1) := by decide +kernel
theorem dL_law_619 : decode cL_law 619 = .ok (.iconst 1, 1) := by decide +kernel
theorem dL_law_620 : decode cL_law 620 = .ok (.iadd, 1) := by decide +kernel
theorem dL_law_621 : decode cL_law 621 = .ok (.iaload, 1) := by decide +kernel
theorem dL_law_622 : decode cL_law 622 = .ok (.aload_n 0, 1) := by decide +kernel
theorem dL_law_623 : decode cL_law 623 = .ok (.iload_n 3, 1) := by decide +kernel
theorem dL_law_624 : decode cL_law 624 = .ok (.iconst 2, 1) := by decide +kernel
theorem dL_law_625 : decode cL_law 625 = .ok (.iadd, 1) := by decide +kernel
theorem dL_law_626 : decode cL_law 626 = .ok (.iaload, 1) := by decide +kernel
theorem dL_law_627 : decode cL_law 627 = .ok (.invokevirtual 92, 3) := by decide +kernel
theorem dL_law_630 : decode cL_law 630 = .ok (.if_icmp .eq 28, 3) := by decide +kernel
theorem dL_law_633 : decode cL_law 633 = .ok (.iconst 0, 1) := by decide +kernel
theorem dL_law_634 : decode cL_law 634 = .ok (.ireturn, 1) := by decide +kernel
theorem dL_law_635 : decode cL_law 635 = .ok (.aload_n 1, 1) := by decide +kernel
theorem dL_law_636 : decode cL_law 636 = .ok (.aload_n 0, 1) := by decide +kernel
theorem dL_law_637 : decode cL_law 637 = .ok (.iload_n 3, 1) := by decide +kernel
theorem dL_law_638 : decode cL_law 638 = .ok (.iconst 1, 1) := by decide +kernel
theorem dL_law_639 : decode cL_law 639 = .ok (.iadd, 1) := by decide +kernel
theorem dL_law_640 : decode cL_law 640 = .ok (.iaload, 1) := by decide +kernel
theorem dL_law_641 : decode cL_law 641 = .ok (.invokevirtual 93, 3) := by decide +kernel
theorem dL_law_644 : decode cL_law 644 = .ok (.aload_n 2, 1) := by decide +kernel
theorem dL_law_645 : decode cL_law 645 = .ok (.aload_n 0, 1) := by decide +kernel
theorem dL_law_646 : decode cL_law 646 = .ok (.iload_n 3, 1) := by decide +kernel
theorem dL_law_647 : decode cL_law 647 = .ok (.iconst 1, 1) := by decide +kernel
theorem dL_law_648 : decode cL_law 648 = .ok (.iadd, 1) := by decide +kernel
theorem dL_law_649 : decode cL_law 649 = .ok (.iaload, 1) := by decide +kernel
theorem dL_law_650 : decode cL_law 650 = .ok (.invokevirtual 96, 3) := by decide +kernel
theorem dL_law_653 : decode cL_law 653 = .ok (.if_icmp .eq 5, 3) := by decide +kernel
theorem dL_law_656 : decode cL_law 656 = .ok (.iconst 0, 1) := by decide +kernel
theorem dL_law_657 : decode cL_law 657 = .ok (.ireturn, 1) := by decide +kernel
theorem dL_law_658 : decode cL_law 658 = .ok (.iinc 3 4, 3) := by decide +kernel
theorem dL_law_661 : decode cL_law 661 = .ok (.goto (-643), 3) := by decide +kernel
theorem dL_law_664 : decode cL_law 664 = .ok (.iconst 1, 1) := by decide +kernel
theorem dL_law_665 : decode cL_law 665 = .ok (.ireturn, 1) := by decide +kernel
end
section
/-! the words of the tables that calls carry on, by name; printed by wip/gen/words.py out of the Statement's tables -/
def wsG : List Cond := lw_tbl.filter goodWord
theorem wsG_in : ∀ w ∈ wsG, w ∈ lw_tbl := fun _ h => (List.mem_filter.mp h).1
theorem wsG_good : GoodIn wsG wsG := fun w h => ⟨h, good_of_word (List.mem_filter.mp h).2⟩
theorem wi_1 {w : Cond} (h : w ∈ tables_1_1) (g : goodWord w = true) : w ∈ wsG := List.mem_filter.mpr ⟨List.mem_append_right _ (List.mem_append_left _ h), g⟩
theorem wi_2 {w : Cond} (h : w ∈ tables_1_2) (g : goodWord w = true) : w ∈ wsG := List.mem_filter.mpr ⟨List.mem_append_right _ (List.mem_append_right _ (List.mem_append_left _ h)), g⟩
theorem wi_3 {w : Cond} (h : w ∈ tables_1_3) (g : goodWord w = true) : w ∈ wsG := List.mem_filter.mpr ⟨List.mem_append_right _ (List.mem_append_right _ (List.mem_append_right _ h)), g⟩
theorem wi_0 {w : Cond} (h : w ∈ k2_sels lw_privs) (g : goodWord w = true) : w ∈ wsG := List.mem_filter.mpr ⟨List.mem_append_left _ h, g⟩
theorem wd_1_0 : Cond.initialized RL ∈ wsG := wi_1 (List.mem_of_getElem? (i := 0) rfl) rfl
theorem wd_1_1 : Cond.initialized RX4 ∈ wsG := wi_1 (List.mem_of_getElem? (i := 1) rfl) rfl
theorem wd_1_2 : Cond.initialized RX3 ∈ wsG := wi_1 (List.mem_of_getElem? (i := 2) rfl) rfl
theorem wd_1_3 : Cond.initialized "java/lang/System" ∈ wsG := wi_1 (List.mem_of_getElem? (i := 3) rfl) rfl
theorem wd_1_4 : Cond.initialized RX2 ∈ wsG := wi_1 (List.mem_of_getElem? (i := 4) rfl) rfl
theorem wd_1_5 : Cond.initialized RX0 ∈ wsG := wi_1 (List.mem_of_getElem? (i := 5) rfl) rfl
theorem wd_1_6 : Cond.initialized RX1 ∈ wsG := wi_1 (List.mem_of_getElem? (i := 6) rfl) rfl
theorem wd_1_7 : Cond.initialized RX5 ∈ wsG := wi_1 (List.mem_of_getElem? (i := 7) rfl) rfl
theorem wd_1_8 : Cond.initialized "java/lang/Math" ∈ wsG := wi_1 (List.mem_of_getElem? (i := 8) rfl) rfl
theorem wd_1_9 : Cond.classLink RL 7 RX4 ∈ wsG := wi_1 (List.mem_of_getElem? (i := 9) rfl) rfl
theorem wd_1_10 : Cond.instantiable RX4 10 ∈ wsG := wi_1 (List.mem_of_getElem? (i := 10) rfl) rfl
theorem wd_1_11 : Cond.methodLink RL 9 yX4_init ∈ wsG := wi_1 (List.mem_of_getElem? (i := 11) rfl) rfl
theorem wd_1_12 : Cond.instanceMethod yX4_init ∈ wsG := wi_1 (List.mem_of_getElem? (i := 12) rfl) rfl
theorem wd_1_13 : Cond.code yX4_init cX4_init 1 none ∈ wsG := wi_1 (List.mem_of_getElem? (i := 13) rfl) rfl
theorem wd_1_14 : Cond.methodLink RX4 1 objectInit ∈ wsG := wi_1 (List.mem_of_getElem? (i := 14) rfl) rfl
theorem wd_1_15 : Cond.instanceMethod objectInit ∈ wsG := wi_1 (List.mem_of_getElem? (i := 15) rfl) rfl
theorem wd_1_16 : Cond.code objectInit ⟨#[0xb1]⟩ 1 none ∈ wsG := wi_1 (List.mem_of_getElem? (i := 16) rfl) rfl
theorem wd_1_17 : Cond.classLink RX4 7 RX3 ∈ wsG := wi_1 (List.mem_of_getElem? (i := 17) rfl) rfl
theorem wd_1_18 : Cond.instantiable RX3 1 ∈ wsG := wi_1 (List.mem_of_getElem? (i := 18) rfl) rfl
theorem wd_1_19 : Cond.methodLink RX4 9 yX3_init ∈ wsG := wi_1 (List.mem_of_getElem? (i := 19) rfl) rfl
theorem wd_1_20 : Cond.instanceMethod yX3_init ∈ wsG := wi_1 (List.mem_of_getElem? (i := 20) rfl) rfl
theorem wd_1_21 : Cond.code yX3_init cX3_init 1 none ∈ wsG := wi_1 (List.mem_of_getElem? (i := 21) rfl) rfl
theorem wd_1_22 : Cond.methodLink RX3 1 objectInit ∈ wsG := wi_1 (List.mem_of_getElem? (i := 22) rfl) rfl
theorem wd_1_23 : Cond.fieldLink RX3 13 "ColdDryer$Rules" "AT_FIRST" "[I" ∈ wsG := wi_1 (List.mem_of_getElem? (i := 23) rfl) rfl
theorem wd_1_25 : Cond.methodLink RX3 16 arraycopyName ∈ wsG := wi_1 (List.mem_of_getElem? (i := 25) rfl) rfl
theorem wd_1_26 : Cond.static arraycopyName ∈ wsG := wi_1 (List.mem_of_getElem? (i := 26) rfl) rfl
theorem wd_1_27 : Cond.native arraycopyName ∈ wsG := wi_1 (List.mem_of_getElem? (i := 27) rfl) rfl
theorem wd_1_28 : Cond.fieldLink RX3 9 "ColdDryer$Rules" "values" "[I" ∈ wsG := wi_1 (List.mem_of_getElem? (i := 28) rfl) rfl
theorem wd_1_29 : Cond.laysFinal RX3 "ColdDryer$Rules" "values" "[I" ∈ wsG := wi_1 (List.mem_of_getElem? (i := 29) rfl) rfl
theorem wd_1_32 : Cond.arrayClass .int ∈ wsG := wi_1 (List.mem_of_getElem? (i := 32) rfl) rfl
theorem wd_1_33 : Cond.classLink RX4 16 RX2 ∈ wsG := wi_1 (List.mem_of_getElem? (i := 33) rfl) rfl
theorem wd_1_34 : Cond.instantiable RX2 7 ∈ wsG := wi_1 (List.mem_of_getElem? (i := 34) rfl) rfl
theorem wd_1_35 : Cond.methodLink RX4 18 yX2_init ∈ wsG := wi_1 (List.mem_of_getElem? (i := 35) rfl) rfl
theorem wd_1_36 : Cond.instanceMethod yX2_init ∈ wsG := wi_1 (List.mem_of_getElem? (i := 36) rfl) rfl
theorem wd_1_37 : Cond.code yX2_init cX2_init 1 none ∈ wsG := wi_1 (List.mem_of_getElem? (i := 37) rfl) rfl
theorem wd_1_38 : Cond.methodLink RX2 3 objectInit ∈ wsG := wi_1 (List.mem_of_getElem? (i := 38) rfl) rfl
theorem wd_1_39 : Cond.classLink RX2 9 RX0 ∈ wsG := wi_1 (List.mem_of_getElem? (i := 39) rfl) rfl
theorem wd_1_40 : Cond.instantiable RX0 8 ∈ wsG := wi_1 (List.mem_of_getElem? (i := 40) rfl) rfl
theorem wd_1_42 : Cond.instanceMethod yX0_init ∈ wsG := wi_1 (List.mem_of_getElem? (i := 42) rfl) rfl
theorem wd_1_43 : Cond.code yX0_init cX0_init 1 none ∈ wsG := wi_1 (List.mem_of_getElem? (i := 43) rfl) rfl
theorem wd_1_44 : Cond.methodLink RX0 3 objectInit ∈ wsG := wi_1 (List.mem_of_getElem? (i := 44) rfl) rfl
theorem wd_1_45 : Cond.fieldLink RX0 9 "ColdDryer$Group" "vials" "I" ∈ wsG := wi_1 (List.mem_of_getElem? (i := 45) rfl) rfl
theorem wd_1_46 : Cond.fieldLink RX2 60 "ColdDryer$Group" "vials" "I" ∈ wsG := wi_1 (List.mem_of_getElem? (i := 46) rfl) rfl
theorem wd_1_47 : Cond.fieldLink RX0 15 "ColdDryer$Group" "firstNumber" "I" ∈ wsG := wi_1 (List.mem_of_getElem? (i := 47) rfl) rfl
theorem wd_1_48 : Cond.fieldLink RX2 83 "ColdDryer$Group" "firstNumber" "I" ∈ wsG := wi_1 (List.mem_of_getElem? (i := 48) rfl) rfl
theorem wd_1_49 : Cond.fieldLink RX0 21 "ColdDryer$Group" "ice" "I" ∈ wsG := wi_1 (List.mem_of_getElem? (i := 49) rfl) rfl
theorem wd_1_50 : Cond.fieldLink RX2 73 "ColdDryer$Group" "ice" "I" ∈ wsG := wi_1 (List.mem_of_getElem? (i := 50) rfl) rfl
theorem wd_1_51 : Cond.fieldLink RX0 24 "ColdDryer$Group" "gave" "I" ∈ wsG := wi_1 (List.mem_of_getElem? (i := 51) rfl) rfl
theorem wd_1_52 : Cond.fieldLink RX2 57 "ColdDryer$Group" "gave" "I" ∈ wsG := wi_1 (List.mem_of_getElem? (i := 52) rfl) rfl
theorem wd_1_53 : Cond.fieldLink RX0 30 "ColdDryer$Group" "fellIn" "I" ∈ wsG := wi_1 (List.mem_of_getElem? (i := 53) rfl) rfl
theorem wd_1_54 : Cond.fieldLink RX2 76 "ColdDryer$Group" "fellIn" "I" ∈ wsG := wi_1 (List.mem_of_getElem? (i := 54) rfl) rfl
theorem wd_1_55 : Cond.fieldLink RX4 143 "ColdDryer$Group" "fellIn" "I" ∈ wsG := wi_1 (List.mem_of_getElem? (i := 55) rfl) rfl
theorem wd_1_56 : Cond.fieldLink RX0 18 "ColdDryer$Group" "heat" "I" ∈ wsG := wi_1 (List.mem_of_getElem? (i := 56) rfl) rfl
theorem wd_1_57 : Cond.fieldLink RX0 27 "ColdDryer$Group" "warmth" "I" ∈ wsG := wi_1 (List.mem_of_getElem? (i := 57) rfl) rfl
theorem wd_1_58 : Cond.fieldLink RX0 33 "ColdDryer$Group" "driedOut" "I" ∈ wsG := wi_1 (List.mem_of_getElem? (i := 58) rfl) rfl
theorem wd_1_59 : Cond.lays RX0 "ColdDryer$Group" "vials" "I" ∈ wsG := wi_1 (List.mem_of_getElem? (i := 59) rfl) rfl
theorem wd_1_61 : Cond.lays RX0 "ColdDryer$Group" "firstNumber" "I" ∈ wsG := wi_1 (List.mem_of_getElem? (i := 61) rfl) rfl
theorem wd_1_63 : Cond.lays RX0 "ColdDryer$Group" "ice" "I" ∈ wsG := wi_1 (List.mem_of_getElem? (i := 63) rfl) rfl
theorem wd_1_65 : Cond.lays RX0 "ColdDryer$Group" "gave" "I" ∈ wsG := wi_1 (List.mem_of_getElem? (i := 65) rfl) rfl
theorem wd_1_67 : Cond.lays RX0 "ColdDryer$Group" "fellIn" "I" ∈ wsG := wi_1 (List.mem_of_getElem? (i := 67) rfl) rfl
theorem wd_1_69 : Cond.lays RX0 "ColdDryer$Group" "heat" "I" ∈ wsG := wi_1 (List.mem_of_getElem? (i := 69) rfl) rfl
theorem wd_1_71 : Cond.lays RX0 "ColdDryer$Group" "warmth" "I" ∈ wsG := wi_1 (List.mem_of_getElem? (i := 71) rfl) rfl
theorem wd_1_73 : Cond.lays RX0 "ColdDryer$Group" "driedOut" "I" ∈ wsG := wi_1 (List.mem_of_getElem? (i := 73) rfl) rfl
theorem wd_1_76 : Cond.fieldLink RX2 12 "ColdDryer$Load" "rimVials" "LColdDryer$Group;" ∈ wsG := wi_1 (List.mem_of_getElem? (i := 76) rfl) rfl
theorem wd_1_77 : Cond.fieldLink RX4 105 "ColdDryer$Load" "rimVials" "LColdDryer$Group;" ∈ wsG := wi_1 (List.mem_of_getElem? (i := 77) rfl) rfl
theorem wd_1_78 : Cond.fieldLink RX2 18 "ColdDryer$Load" "innerVials" "LColdDryer$Group;" ∈ wsG := wi_1 (List.mem_of_getElem? (i := 78) rfl) rfl
theorem wd_1_79 : Cond.fieldLink RX4 109 "ColdDryer$Load" "innerVials" "LColdDryer$Group;" ∈ wsG := wi_1 (List.mem_of_getElem? (i := 79) rfl) rfl
theorem wd_1_80 : Cond.fieldLink RX1 21 "ColdDryer$Load" "minute" "I" ∈ wsG := wi_1 (List.mem_of_getElem? (i := 80) rfl) rfl
theorem wd_1_81 : Cond.fieldLink RX2 37 "ColdDryer$Load" "minute" "I" ∈ wsG := wi_1 (List.mem_of_getElem? (i := 81) rfl) rfl
theorem wd_1_82 : Cond.fieldLink RX4 95 "ColdDryer$Load" "minute" "I" ∈ wsG := wi_1 (List.mem_of_getElem? (i := 82) rfl) rfl
theorem wd_1_83 : Cond.fieldLink RX1 31 "ColdDryer$Load" "pressure" "I" ∈ wsG := wi_1 (List.mem_of_getElem? (i := 83) rfl) rfl
theorem wd_1_84 : Cond.fieldLink RX2 41 "ColdDryer$Load" "pressure" "I" ∈ wsG := wi_1 (List.mem_of_getElem? (i := 84) rfl) rfl
theorem wd_1_85 : Cond.fieldLink RX2 44 "ColdDryer$Load" "greatestPressure" "I" ∈ wsG := wi_1 (List.mem_of_getElem? (i := 85) rfl) rfl
theorem wd_1_86 : Cond.fieldLink RX4 146 "ColdDryer$Load" "greatestPressure" "I" ∈ wsG := wi_1 (List.mem_of_getElem? (i := 86) rfl) rfl
theorem wd_1_87 : Cond.fieldLink RX2 47 "ColdDryer$Load" "allGave" "I" ∈ wsG := wi_1 (List.mem_of_getElem? (i := 87) rfl) rfl
theorem wd_1_88 : Cond.fieldLink RX2 50 "ColdDryer$Load" "gaveSoFar" "I" ∈ wsG := wi_1 (List.mem_of_getElem? (i := 88) rfl) rfl
theorem wd_1_89 : Cond.laysFinal RX2 "ColdDryer$Load" "rimVials" "LColdDryer$Group;" ∈ wsG := wi_1 (List.mem_of_getElem? (i := 89) rfl) rfl
theorem wd_1_91 : Cond.laysFinal RX2 "ColdDryer$Load" "innerVials" "LColdDryer$Group;" ∈ wsG := wi_1 (List.mem_of_getElem? (i := 91) rfl) rfl
theorem wd_1_93 : Cond.lays RX2 "ColdDryer$Load" "minute" "I" ∈ wsG := wi_1 (List.mem_of_getElem? (i := 93) rfl) rfl
theorem wd_1_95 : Cond.lays RX2 "ColdDryer$Load" "pressure" "I" ∈ wsG := wi_1 (List.mem_of_getElem? (i := 95) rfl) rfl
theorem wd_1_97 : Cond.lays RX2 "ColdDryer$Load" "greatestPressure" "I" ∈ wsG := wi_1 (List.mem_of_getElem? (i := 97) rfl) rfl
theorem wd_1_99 : Cond.lays RX2 "ColdDryer$Load" "allGave" "I" ∈ wsG := wi_1 (List.mem_of_getElem? (i := 99) rfl) rfl
theorem wd_1_101 : Cond.lays RX2 "ColdDryer$Load" "gaveSoFar" "I" ∈ wsG := wi_1 (List.mem_of_getElem? (i := 101) rfl) rfl
theorem wd_1_104 : Cond.classLink RX4 26 RX1 ∈ wsG := wi_1 (List.mem_of_getElem? (i := 104) rfl) rfl
theorem wd_1_105 : Cond.instantiable RX1 3 ∈ wsG := wi_1 (List.mem_of_getElem? (i := 105) rfl) rfl
theorem wd_1_106 : Cond.methodLink RX4 28 yX1_init ∈ wsG := wi_1 (List.mem_of_getElem? (i := 106) rfl) rfl
theorem wd_1_107 : Cond.instanceMethod yX1_init ∈ wsG := wi_1 (List.mem_of_getElem? (i := 107) rfl) rfl
theorem wd_1_108 : Cond.code yX1_init cX1_init 1 none ∈ wsG := wi_1 (List.mem_of_getElem? (i := 108) rfl) rfl
theorem wd_1_109 : Cond.methodLink RX1 3 objectInit ∈ wsG := wi_1 (List.mem_of_getElem? (i := 109) rfl) rfl
theorem wd_1_110 : Cond.fieldLink RX1 9 "ColdDryer$History" "one" "[I" ∈ wsG := wi_1 (List.mem_of_getElem? (i := 110) rfl) rfl
theorem wd_1_111 : Cond.fieldLink RX1 15 "ColdDryer$History" "other" "[I" ∈ wsG := wi_1 (List.mem_of_getElem? (i := 111) rfl) rfl
theorem wd_1_112 : Cond.fieldLink RX1 18 "ColdDryer$History" "withIce" "[I" ∈ wsG := wi_1 (List.mem_of_getElem? (i := 112) rfl) rfl
theorem wd_1_113 : Cond.laysFinal RX1 "ColdDryer$History" "one" "[I" ∈ wsG := wi_1 (List.mem_of_getElem? (i := 113) rfl) rfl
theorem wd_1_115 : Cond.laysFinal RX1 "ColdDryer$History" "other" "[I" ∈ wsG := wi_1 (List.mem_of_getElem? (i := 115) rfl) rfl
theorem wd_1_117 : Cond.laysFinal RX1 "ColdDryer$History" "withIce" "[I" ∈ wsG := wi_1 (List.mem_of_getElem? (i := 117) rfl) rfl
theorem wd_1_120 : Cond.fieldLink RX4 10 "ColdDryer" "rules" "LColdDryer$Rules;" ∈ wsG := wi_1 (List.mem_of_getElem? (i := 120) rfl) rfl
theorem wd_1_121 : Cond.fieldLink RX4 19 "ColdDryer" "current" "LColdDryer$Load;" ∈ wsG := wi_1 (List.mem_of_getElem? (i := 121) rfl) rfl
theorem wd_1_122 : Cond.fieldLink RX4 23 "ColdDryer" "latestTrial" "LColdDryer$Load;" ∈ wsG := wi_1 (List.mem_of_getElem? (i := 122) rfl) rfl
theorem wd_1_123 : Cond.fieldLink RX4 29 "ColdDryer" "history" "LColdDryer$History;" ∈ wsG := wi_1 (List.mem_of_getElem? (i := 123) rfl) rfl
theorem wd_1_124 : Cond.fieldLink RX4 33 "ColdDryer" "rows" "I" ∈ wsG := wi_1 (List.mem_of_getElem? (i := 124) rfl) rfl
theorem wd_1_125 : Cond.fieldLink RX4 37 "ColdDryer" "columns" "I" ∈ wsG := wi_1 (List.mem_of_getElem? (i := 125) rfl) rfl
theorem wd_1_126 : Cond.fieldLink RX4 40 "ColdDryer" "shelfWarmth" "I" ∈ wsG := wi_1 (List.mem_of_getElem? (i := 126) rfl) rfl
theorem wd_1_127 : Cond.fieldLink RX4 43 "ColdDryer" "setPressure" "I" ∈ wsG := wi_1 (List.mem_of_getElem? (i := 127) rfl) rfl
theorem wd_1_128 : Cond.fieldLink RX4 46 "ColdDryer" "loaded" "Z" ∈ wsG := wi_1 (List.mem_of_getElem? (i := 128) rfl) rfl
theorem wd_1_129 : Cond.fieldLink RX4 50 "ColdDryer" "trialDone" "Z" ∈ wsG := wi_1 (List.mem_of_getElem? (i := 129) rfl) rfl
theorem wd_1_130 : Cond.laysFinal RX4 "ColdDryer" "rules" "LColdDryer$Rules;" ∈ wsG := wi_1 (List.mem_of_getElem? (i := 130) rfl) rfl
theorem wd_1_132 : Cond.laysFinal RX4 "ColdDryer" "current" "LColdDryer$Load;" ∈ wsG := wi_1 (List.mem_of_getElem? (i := 132) rfl) rfl
theorem wd_1_134 : Cond.laysFinal RX4 "ColdDryer" "latestTrial" "LColdDryer$Load;" ∈ wsG := wi_1 (List.mem_of_getElem? (i := 134) rfl) rfl
theorem wd_1_136 : Cond.laysFinal RX4 "ColdDryer" "history" "LColdDryer$History;" ∈ wsG := wi_1 (List.mem_of_getElem? (i := 136) rfl) rfl
theorem wd_1_138 : Cond.lays RX4 "ColdDryer" "rows" "I" ∈ wsG := wi_1 (List.mem_of_getElem? (i := 138) rfl) rfl
theorem wd_1_140 : Cond.lays RX4 "ColdDryer" "columns" "I" ∈ wsG := wi_1 (List.mem_of_getElem? (i := 140) rfl) rfl
theorem wd_1_142 : Cond.lays RX4 "ColdDryer" "shelfWarmth" "I" ∈ wsG := wi_1 (List.mem_of_getElem? (i := 142) rfl) rfl
theorem wd_1_144 : Cond.lays RX4 "ColdDryer" "setPressure" "I" ∈ wsG := wi_1 (List.mem_of_getElem? (i := 144) rfl) rfl
theorem wd_1_146 : Cond.lays RX4 "ColdDryer" "loaded" "Z" ∈ wsG := wi_1 (List.mem_of_getElem? (i := 146) rfl) rfl
theorem wd_1_148 : Cond.lays RX4 "ColdDryer" "trialDone" "Z" ∈ wsG := wi_1 (List.mem_of_getElem? (i := 148) rfl) rfl
theorem wd_1_151 : Cond.methodLink RL 13 yX4_shelf ∈ wsG := wi_1 (List.mem_of_getElem? (i := 151) rfl) rfl
theorem wd_1_152 : Cond.instanceMethod yX4_shelf ∈ wsG := wi_1 (List.mem_of_getElem? (i := 152) rfl) rfl
theorem wd_1_153 : Cond.selects RX4 yX4_shelf yX4_shelf ∈ wsG := wi_1 (List.mem_of_getElem? (i := 153) rfl) rfl
theorem wd_1_154 : Cond.code yX4_shelf cX4_shelf 3 (some .int) ∈ wsG := wi_1 (List.mem_of_getElem? (i := 154) rfl) rfl
theorem wd_1_155 : Cond.methodLink RX4 53 yX4_within ∈ wsG := wi_1 (List.mem_of_getElem? (i := 155) rfl) rfl
theorem wd_1_156 : Cond.static yX4_within ∈ wsG := wi_1 (List.mem_of_getElem? (i := 156) rfl) rfl
theorem wd_1_157 : Cond.code yX4_within cX4_within 3 (some .boolean) ∈ wsG := wi_1 (List.mem_of_getElem? (i := 157) rfl) rfl
theorem wd_1_158 : Cond.methodLink RX4 57 yX4_places ∈ wsG := wi_1 (List.mem_of_getElem? (i := 158) rfl) rfl
theorem wd_1_160 : Cond.instanceMethod yX4_places ∈ wsG := wi_1 (List.mem_of_getElem? (i := 160) rfl) rfl
theorem wd_1_161 : Cond.code yX4_places cX4_places 1 (some .int) ∈ wsG := wi_1 (List.mem_of_getElem? (i := 161) rfl) rfl
theorem wd_1_162 : Cond.methodLink RL 18 yX4_rule ∈ wsG := wi_1 (List.mem_of_getElem? (i := 162) rfl) rfl
theorem wd_1_163 : Cond.instanceMethod yX4_rule ∈ wsG := wi_1 (List.mem_of_getElem? (i := 163) rfl) rfl
theorem wd_1_164 : Cond.selects RX4 yX4_rule yX4_rule ∈ wsG := wi_1 (List.mem_of_getElem? (i := 164) rfl) rfl
theorem wd_1_165 : Cond.code yX4_rule cX4_rule 3 (some .int) ∈ wsG := wi_1 (List.mem_of_getElem? (i := 165) rfl) rfl
theorem wd_1_166 : Cond.methodLink RX4 61 yX3_has ∈ wsG := wi_1 (List.mem_of_getElem? (i := 166) rfl) rfl
theorem wd_1_167 : Cond.static yX3_has ∈ wsG := wi_1 (List.mem_of_getElem? (i := 167) rfl) rfl
theorem wd_1_168 : Cond.code yX3_has cX3_has 1 (some .boolean) ∈ wsG := wi_1 (List.mem_of_getElem? (i := 168) rfl) rfl
theorem wd_1_170 : Cond.methodLink RX4 65 yX3_allows ∈ wsG := wi_1 (List.mem_of_getElem? (i := 170) rfl) rfl
theorem wd_1_171 : Cond.static yX3_allows ∈ wsG := wi_1 (List.mem_of_getElem? (i := 171) rfl) rfl
theorem wd_1_172 : Cond.code yX3_allows cX3_allows 2 (some .boolean) ∈ wsG := wi_1 (List.mem_of_getElem? (i := 172) rfl) rfl
theorem wd_1_173 : Cond.methodLink RX3 28 yX3_has ∈ wsG := wi_1 (List.mem_of_getElem? (i := 173) rfl) rfl
theorem wd_1_174 : Cond.fieldLink RX3 32 "ColdDryer$Rules" "LEAST" "[I" ∈ wsG := wi_1 (List.mem_of_getElem? (i := 174) rfl) rfl
theorem wd_1_176 : Cond.fieldLink RX3 35 "ColdDryer$Rules" "MOST" "[I" ∈ wsG := wi_1 (List.mem_of_getElem? (i := 176) rfl) rfl
theorem wd_1_178 : Cond.methodLink RX4 69 yX3_change ∈ wsG := wi_1 (List.mem_of_getElem? (i := 178) rfl) rfl
theorem wd_1_179 : Cond.instanceMethod yX3_change ∈ wsG := wi_1 (List.mem_of_getElem? (i := 179) rfl) rfl
theorem wd_1_180 : Cond.selects RX3 yX3_change yX3_change ∈ wsG := wi_1 (List.mem_of_getElem? (i := 180) rfl) rfl
theorem wd_1_181 : Cond.code yX3_change cX3_change 4 (some .int) ∈ wsG := wi_1 (List.mem_of_getElem? (i := 181) rfl) rfl
theorem wd_1_182 : Cond.methodLink RX3 38 yX3_valueOf ∈ wsG := wi_1 (List.mem_of_getElem? (i := 182) rfl) rfl
theorem wd_1_183 : Cond.instanceMethod yX3_valueOf ∈ wsG := wi_1 (List.mem_of_getElem? (i := 183) rfl) rfl
theorem wd_1_184 : Cond.selects RX3 yX3_valueOf yX3_valueOf ∈ wsG := wi_1 (List.mem_of_getElem? (i := 184) rfl) rfl
theorem wd_1_185 : Cond.code yX3_valueOf cX3_valueOf 2 (some .int) ∈ wsG := wi_1 (List.mem_of_getElem? (i := 185) rfl) rfl
theorem wd_1_186 : Cond.methodLink RX3 42 yX3_allows ∈ wsG := wi_1 (List.mem_of_getElem? (i := 186) rfl) rfl
theorem wd_1_187 : Cond.methodLink RL 22 yX4_vapour ∈ wsG := wi_1 (List.mem_of_getElem? (i := 187) rfl) rfl
theorem wd_1_188 : Cond.instanceMethod yX4_vapour ∈ wsG := wi_1 (List.mem_of_getElem? (i := 188) rfl) rfl
theorem wd_1_189 : Cond.selects RX4 yX4_vapour yX4_vapour ∈ wsG := wi_1 (List.mem_of_getElem? (i := 189) rfl) rfl
theorem wd_1_190 : Cond.code yX4_vapour cX4_vapour 2 (some .int) ∈ wsG := wi_1 (List.mem_of_getElem? (i := 190) rfl) rfl
theorem wd_1_191 : Cond.methodLink RX4 73 yX4_vapourAt ∈ wsG := wi_1 (List.mem_of_getElem? (i := 191) rfl) rfl
theorem wd_1_192 : Cond.static yX4_vapourAt ∈ wsG := wi_1 (List.mem_of_getElem? (i := 192) rfl) rfl
theorem wd_1_193 : Cond.code yX4_vapourAt cX4_vapourAt 8 (some .int) ∈ wsG := wi_1 (List.mem_of_getElem? (i := 193) rfl) rfl
theorem wd_1_194 : Cond.methodLink RL 27 yX4_steam ∈ wsG := wi_1 (List.mem_of_getElem? (i := 194) rfl) rfl
theorem wd_1_195 : Cond.instanceMethod yX4_steam ∈ wsG := wi_1 (List.mem_of_getElem? (i := 195) rfl) rfl
theorem wd_1_196 : Cond.selects RX4 yX4_steam yX4_steam ∈ wsG := wi_1 (List.mem_of_getElem? (i := 196) rfl) rfl
theorem wd_1_197 : Cond.code yX4_steam cX4_steam 4 (some .int) ∈ wsG := wi_1 (List.mem_of_getElem? (i := 197) rfl) rfl
theorem wd_1_198 : Cond.methodLink RX4 77 yX3_bars ∈ wsG := wi_1 (List.mem_of_getElem? (i := 198) rfl) rfl
theorem wd_1_199 : Cond.instanceMethod yX3_bars ∈ wsG := wi_1 (List.mem_of_getElem? (i := 199) rfl) rfl
theorem wd_1_200 : Cond.selects RX3 yX3_bars yX3_bars ∈ wsG := wi_1 (List.mem_of_getElem? (i := 200) rfl) rfl
theorem wd_1_201 : Cond.code yX3_bars cX3_bars 2 (some .int) ∈ wsG := wi_1 (List.mem_of_getElem? (i := 201) rfl) rfl
theorem wd_1_202 : Cond.methodLink RX4 80 yX4_steamAt ∈ wsG := wi_1 (List.mem_of_getElem? (i := 202) rfl) rfl
theorem wd_1_203 : Cond.static yX4_steamAt ∈ wsG := wi_1 (List.mem_of_getElem? (i := 203) rfl) rfl
theorem wd_1_204 : Cond.code yX4_steamAt cX4_steamAt 3 (some .int) ∈ wsG := wi_1 (List.mem_of_getElem? (i := 204) rfl) rfl
theorem wd_1_205 : Cond.methodLink RX4 158 Lib.Math.max.name ∈ wsG := wi_1 (List.mem_of_getElem? (i := 205) rfl) rfl
theorem wd_1_206 : Cond.static Lib.Math.max.name ∈ wsG := wi_1 (List.mem_of_getElem? (i := 206) rfl) rfl
theorem wd_1_207 : Cond.code Lib.Math.max.name Lib.Math.max.code 2 (some .int) ∈ wsG := wi_1 (List.mem_of_getElem? (i := 207) rfl) rfl
theorem wd_1_208 : Cond.methodLink RX4 152 yX4_quotient ∈ wsG := wi_1 (List.mem_of_getElem? (i := 208) rfl) rfl
theorem wd_1_209 : Cond.static yX4_quotient ∈ wsG := wi_1 (List.mem_of_getElem? (i := 209) rfl) rfl
theorem wd_1_210 : Cond.code yX4_quotient cX4_quotient 2 (some .int) ∈ wsG := wi_1 (List.mem_of_getElem? (i := 210) rfl) rfl
theorem wd_1_211 : Cond.methodLink RL 32 yX4_rim ∈ wsG := wi_1 (List.mem_of_getElem? (i := 211) rfl) rfl
theorem wd_1_212 : Cond.instanceMethod yX4_rim ∈ wsG := wi_1 (List.mem_of_getElem? (i := 212) rfl) rfl
theorem wd_1_213 : Cond.selects RX4 yX4_rim yX4_rim ∈ wsG := wi_1 (List.mem_of_getElem? (i := 213) rfl) rfl
theorem wd_1_214 : Cond.code yX4_rim cX4_rim 2 (some .int) ∈ wsG := wi_1 (List.mem_of_getElem? (i := 214) rfl) rfl
theorem wd_1_215 : Cond.methodLink RX4 84 yX4_isAtRim ∈ wsG := wi_1 (List.mem_of_getElem? (i := 215) rfl) rfl
theorem wd_1_217 : Cond.instanceMethod yX4_isAtRim ∈ wsG := wi_1 (List.mem_of_getElem? (i := 217) rfl) rfl
theorem wd_1_218 : Cond.code yX4_isAtRim cX4_isAtRim 4 (some .boolean) ∈ wsG := wi_1 (List.mem_of_getElem? (i := 218) rfl) rfl
theorem wd_1_219 : Cond.methodLink RL 36 yX4_load ∈ wsG := wi_1 (List.mem_of_getElem? (i := 219) rfl) rfl
theorem wd_1_220 : Cond.instanceMethod yX4_load ∈ wsG := wi_1 (List.mem_of_getElem? (i := 220) rfl) rfl
theorem wd_1_221 : Cond.selects RX4 yX4_load yX4_load ∈ wsG := wi_1 (List.mem_of_getElem? (i := 221) rfl) rfl
theorem wd_1_222 : Cond.code yX4_load cX4_load 1 (some .int) ∈ wsG := wi_1 (List.mem_of_getElem? (i := 222) rfl) rfl
theorem wd_1_223 : Cond.methodLink RX4 87 yX2_start ∈ wsG := wi_1 (List.mem_of_getElem? (i := 223) rfl) rfl
theorem wd_1_224 : Cond.instanceMethod yX2_start ∈ wsG := wi_1 (List.mem_of_getElem? (i := 224) rfl) rfl
theorem wd_1_225 : Cond.selects RX2 yX2_start yX2_start ∈ wsG := wi_1 (List.mem_of_getElem? (i := 225) rfl) rfl
theorem wd_1_226 : Cond.code yX2_start cX2_start 8 none ∈ wsG := wi_1 (List.mem_of_getElem? (i := 226) rfl) rfl
theorem wd_1_227 : Cond.methodLink RX2 21 Lib.Math.max.name ∈ wsG := wi_1 (List.mem_of_getElem? (i := 227) rfl) rfl
theorem wd_1_228 : Cond.methodLink RX2 29 yX3_valueOf ∈ wsG := wi_1 (List.mem_of_getElem? (i := 228) rfl) rfl
theorem wd_1_229 : Cond.methodLink RX2 33 yX0_fill ∈ wsG := wi_1 (List.mem_of_getElem? (i := 229) rfl) rfl
theorem wd_1_230 : Cond.instanceMethod yX0_fill ∈ wsG := wi_1 (List.mem_of_getElem? (i := 230) rfl) rfl
theorem wd_1_231 : Cond.selects RX0 yX0_fill yX0_fill ∈ wsG := wi_1 (List.mem_of_getElem? (i := 231) rfl) rfl
theorem wd_1_232 : Cond.code yX0_fill cX0_fill 5 none ∈ wsG := wi_1 (List.mem_of_getElem? (i := 232) rfl) rfl
theorem wd_1_233 : Cond.methodLink RX4 91 yX1_note ∈ wsG := wi_1 (List.mem_of_getElem? (i := 233) rfl) rfl
theorem wd_1_234 : Cond.instanceMethod yX1_note ∈ wsG := wi_1 (List.mem_of_getElem? (i := 234) rfl) rfl
theorem wd_1_235 : Cond.selects RX1 yX1_note yX1_note ∈ wsG := wi_1 (List.mem_of_getElem? (i := 235) rfl) rfl
theorem wd_1_236 : Cond.code yX1_note cX1_note 4 none ∈ wsG := wi_1 (List.mem_of_getElem? (i := 236) rfl) rfl
theorem wd_1_237 : Cond.methodLink RX1 27 yX1_holds ∈ wsG := wi_1 (List.mem_of_getElem? (i := 237) rfl) rfl
theorem wd_1_238 : Cond.static yX1_holds ∈ wsG := wi_1 (List.mem_of_getElem? (i := 238) rfl) rfl
theorem wd_1_239 : Cond.code yX1_holds cX1_holds 1 (some .boolean) ∈ wsG := wi_1 (List.mem_of_getElem? (i := 239) rfl) rfl
theorem wd_2_1 : Cond.methodLink RX1 34 yX2_otherGauge ∈ wsG := wi_2 (List.mem_of_getElem? (i := 1) rfl) rfl
theorem wd_2_2 : Cond.instanceMethod yX2_otherGauge ∈ wsG := wi_2 (List.mem_of_getElem? (i := 2) rfl) rfl
theorem wd_2_3 : Cond.selects RX2 yX2_otherGauge yX2_otherGauge ∈ wsG := wi_2 (List.mem_of_getElem? (i := 3) rfl) rfl
theorem wd_2_4 : Cond.code yX2_otherGauge cX2_otherGauge 3 (some .int) ∈ wsG := wi_2 (List.mem_of_getElem? (i := 4) rfl) rfl
theorem wd_2_6 : Cond.methodLink RX1 38 yX2_vialsWithIce ∈ wsG := wi_2 (List.mem_of_getElem? (i := 6) rfl) rfl
theorem wd_2_7 : Cond.instanceMethod yX2_vialsWithIce ∈ wsG := wi_2 (List.mem_of_getElem? (i := 7) rfl) rfl
theorem wd_2_8 : Cond.selects RX2 yX2_vialsWithIce yX2_vialsWithIce ∈ wsG := wi_2 (List.mem_of_getElem? (i := 8) rfl) rfl
theorem wd_2_9 : Cond.code yX2_vialsWithIce cX2_vialsWithIce 1 (some .int) ∈ wsG := wi_2 (List.mem_of_getElem? (i := 9) rfl) rfl
theorem wd_2_10 : Cond.methodLink RL 41 yX4_warm ∈ wsG := wi_2 (List.mem_of_getElem? (i := 10) rfl) rfl
theorem wd_2_11 : Cond.instanceMethod yX4_warm ∈ wsG := wi_2 (List.mem_of_getElem? (i := 11) rfl) rfl
theorem wd_2_12 : Cond.selects RX4 yX4_warm yX4_warm ∈ wsG := wi_2 (List.mem_of_getElem? (i := 12) rfl) rfl
theorem wd_2_13 : Cond.code yX4_warm cX4_warm 3 (some .int) ∈ wsG := wi_2 (List.mem_of_getElem? (i := 13) rfl) rfl
theorem wd_2_14 : Cond.methodLink RL 45 yX4_set ∈ wsG := wi_2 (List.mem_of_getElem? (i := 14) rfl) rfl
theorem wd_2_15 : Cond.instanceMethod yX4_set ∈ wsG := wi_2 (List.mem_of_getElem? (i := 15) rfl) rfl
theorem wd_2_16 : Cond.selects RX4 yX4_set yX4_set ∈ wsG := wi_2 (List.mem_of_getElem? (i := 16) rfl) rfl
theorem wd_2_17 : Cond.code yX4_set cX4_set 3 (some .int) ∈ wsG := wi_2 (List.mem_of_getElem? (i := 17) rfl) rfl
theorem wd_2_18 : Cond.methodLink RL 49 yX4_run ∈ wsG := wi_2 (List.mem_of_getElem? (i := 18) rfl) rfl
theorem wd_2_19 : Cond.instanceMethod yX4_run ∈ wsG := wi_2 (List.mem_of_getElem? (i := 19) rfl) rfl
theorem wd_2_20 : Cond.selects RX4 yX4_run yX4_run ∈ wsG := wi_2 (List.mem_of_getElem? (i := 20) rfl) rfl
theorem wd_2_21 : Cond.code yX4_run cX4_run 3 (some .int) ∈ wsG := wi_2 (List.mem_of_getElem? (i := 21) rfl) rfl
theorem wd_2_22 : Cond.methodLink RX4 98 yX2_passMinute ∈ wsG := wi_2 (List.mem_of_getElem? (i := 22) rfl) rfl
theorem wd_2_23 : Cond.instanceMethod yX2_passMinute ∈ wsG := wi_2 (List.mem_of_getElem? (i := 23) rfl) rfl
theorem wd_2_24 : Cond.selects RX2 yX2_passMinute yX2_passMinute ∈ wsG := wi_2 (List.mem_of_getElem? (i := 24) rfl) rfl
theorem wd_2_25 : Cond.code yX2_passMinute cX2_passMinute 4 none ∈ wsG := wi_2 (List.mem_of_getElem? (i := 25) rfl) rfl
theorem wd_2_26 : Cond.methodLink RX2 53 yX0_passMinute ∈ wsG := wi_2 (List.mem_of_getElem? (i := 26) rfl) rfl
theorem wd_2_27 : Cond.instanceMethod yX0_passMinute ∈ wsG := wi_2 (List.mem_of_getElem? (i := 27) rfl) rfl
theorem wd_2_28 : Cond.selects RX0 yX0_passMinute yX0_passMinute ∈ wsG := wi_2 (List.mem_of_getElem? (i := 28) rfl) rfl
theorem wd_2_29 : Cond.code yX0_passMinute cX0_passMinute 7 none ∈ wsG := wi_2 (List.mem_of_getElem? (i := 29) rfl) rfl
theorem wd_2_30 : Cond.methodLink RX0 38 yX3_valueOf ∈ wsG := wi_2 (List.mem_of_getElem? (i := 30) rfl) rfl
theorem wd_2_32 : Cond.methodLink RX0 46 yX3_bars ∈ wsG := wi_2 (List.mem_of_getElem? (i := 32) rfl) rfl
theorem wd_2_33 : Cond.methodLink RX0 49 yX0_balance ∈ wsG := wi_2 (List.mem_of_getElem? (i := 33) rfl) rfl
theorem wd_2_35 : Cond.instanceMethod yX0_balance ∈ wsG := wi_2 (List.mem_of_getElem? (i := 35) rfl) rfl
theorem wd_2_36 : Cond.code yX0_balance cX0_balance 8 (some .int) ∈ wsG := wi_2 (List.mem_of_getElem? (i := 36) rfl) rfl
theorem wd_2_38 : Cond.methodLink RX0 57 Lib.Math.min.name ∈ wsG := wi_2 (List.mem_of_getElem? (i := 38) rfl) rfl
theorem wd_2_39 : Cond.static Lib.Math.min.name ∈ wsG := wi_2 (List.mem_of_getElem? (i := 39) rfl) rfl
theorem wd_2_40 : Cond.code Lib.Math.min.name Lib.Math.min.code 2 (some .int) ∈ wsG := wi_2 (List.mem_of_getElem? (i := 40) rfl) rfl
theorem wd_2_41 : Cond.methodLink RX2 63 yX2_pressureBehind ∈ wsG := wi_2 (List.mem_of_getElem? (i := 41) rfl) rfl
theorem wd_2_43 : Cond.instanceMethod yX2_pressureBehind ∈ wsG := wi_2 (List.mem_of_getElem? (i := 43) rfl) rfl
theorem wd_2_44 : Cond.code yX2_pressureBehind cX2_pressureBehind 3 (some .int) ∈ wsG := wi_2 (List.mem_of_getElem? (i := 44) rfl) rfl
theorem wd_2_45 : Cond.methodLink RX2 70 Lib.Math.min.name ∈ wsG := wi_2 (List.mem_of_getElem? (i := 45) rfl) rfl
theorem wd_2_46 : Cond.methodLink RL 53 yX4_unload ∈ wsG := wi_2 (List.mem_of_getElem? (i := 46) rfl) rfl
theorem wd_2_47 : Cond.instanceMethod yX4_unload ∈ wsG := wi_2 (List.mem_of_getElem? (i := 47) rfl) rfl
theorem wd_2_48 : Cond.selects RX4 yX4_unload yX4_unload ∈ wsG := wi_2 (List.mem_of_getElem? (i := 48) rfl) rfl
theorem wd_2_49 : Cond.code yX4_unload cX4_unload 1 (some .int) ∈ wsG := wi_2 (List.mem_of_getElem? (i := 49) rfl) rfl
theorem wd_2_50 : Cond.methodLink RX4 102 yX2_vialsWithIce ∈ wsG := wi_2 (List.mem_of_getElem? (i := 50) rfl) rfl
theorem wd_2_51 : Cond.methodLink RL 57 yX4_vial ∈ wsG := wi_2 (List.mem_of_getElem? (i := 51) rfl) rfl
theorem wd_2_52 : Cond.instanceMethod yX4_vial ∈ wsG := wi_2 (List.mem_of_getElem? (i := 52) rfl) rfl
theorem wd_2_53 : Cond.selects RX4 yX4_vial yX4_vial ∈ wsG := wi_2 (List.mem_of_getElem? (i := 53) rfl) rfl
theorem wd_2_54 : Cond.code yX4_vial cX4_vial 4 (some .int) ∈ wsG := wi_2 (List.mem_of_getElem? (i := 54) rfl) rfl
theorem wd_2_55 : Cond.methodLink RX4 112 yX0_tell ∈ wsG := wi_2 (List.mem_of_getElem? (i := 55) rfl) rfl
theorem wd_2_56 : Cond.instanceMethod yX0_tell ∈ wsG := wi_2 (List.mem_of_getElem? (i := 56) rfl) rfl
theorem wd_2_57 : Cond.selects RX0 yX0_tell yX0_tell ∈ wsG := wi_2 (List.mem_of_getElem? (i := 57) rfl) rfl
theorem wd_2_58 : Cond.code yX0_tell cX0_tell 2 (some .int) ∈ wsG := wi_2 (List.mem_of_getElem? (i := 58) rfl) rfl
theorem wd_2_59 : Cond.methodLink RL 61 yX4_about ∈ wsG := wi_2 (List.mem_of_getElem? (i := 59) rfl) rfl
theorem wd_2_60 : Cond.instanceMethod yX4_about ∈ wsG := wi_2 (List.mem_of_getElem? (i := 60) rfl) rfl
theorem wd_2_61 : Cond.selects RX4 yX4_about yX4_about ∈ wsG := wi_2 (List.mem_of_getElem? (i := 61) rfl) rfl
theorem wd_2_62 : Cond.code yX4_about cX4_about 2 (some .int) ∈ wsG := wi_2 (List.mem_of_getElem? (i := 62) rfl) rfl
theorem wd_2_63 : Cond.methodLink RX4 117 yX2_tell ∈ wsG := wi_2 (List.mem_of_getElem? (i := 63) rfl) rfl
theorem wd_2_64 : Cond.instanceMethod yX2_tell ∈ wsG := wi_2 (List.mem_of_getElem? (i := 64) rfl) rfl
theorem wd_2_65 : Cond.selects RX2 yX2_tell yX2_tell ∈ wsG := wi_2 (List.mem_of_getElem? (i := 65) rfl) rfl
theorem wd_2_66 : Cond.code yX2_tell cX2_tell 2 (some .int) ∈ wsG := wi_2 (List.mem_of_getElem? (i := 66) rfl) rfl
theorem wd_2_67 : Cond.methodLink RX2 86 yX2_fallenVials ∈ wsG := wi_2 (List.mem_of_getElem? (i := 67) rfl) rfl
theorem wd_2_68 : Cond.instanceMethod yX2_fallenVials ∈ wsG := wi_2 (List.mem_of_getElem? (i := 68) rfl) rfl
theorem wd_2_69 : Cond.selects RX2 yX2_fallenVials yX2_fallenVials ∈ wsG := wi_2 (List.mem_of_getElem? (i := 69) rfl) rfl
theorem wd_2_70 : Cond.code yX2_fallenVials cX2_fallenVials 1 (some .int) ∈ wsG := wi_2 (List.mem_of_getElem? (i := 70) rfl) rfl
theorem wd_2_71 : Cond.methodLink RX2 90 yX2_vialsWithIce ∈ wsG := wi_2 (List.mem_of_getElem? (i := 71) rfl) rfl
theorem wd_2_72 : Cond.methodLink RL 65 yX4_gauge ∈ wsG := wi_2 (List.mem_of_getElem? (i := 72) rfl) rfl
theorem wd_2_73 : Cond.instanceMethod yX4_gauge ∈ wsG := wi_2 (List.mem_of_getElem? (i := 73) rfl) rfl
theorem wd_2_74 : Cond.selects RX4 yX4_gauge yX4_gauge ∈ wsG := wi_2 (List.mem_of_getElem? (i := 74) rfl) rfl
theorem wd_2_75 : Cond.code yX4_gauge cX4_gauge 3 (some .int) ∈ wsG := wi_2 (List.mem_of_getElem? (i := 75) rfl) rfl
theorem wd_2_76 : Cond.methodLink RX4 118 yX1_oneAt ∈ wsG := wi_2 (List.mem_of_getElem? (i := 76) rfl) rfl
theorem wd_2_77 : Cond.instanceMethod yX1_oneAt ∈ wsG := wi_2 (List.mem_of_getElem? (i := 77) rfl) rfl
theorem wd_2_78 : Cond.selects RX1 yX1_oneAt yX1_oneAt ∈ wsG := wi_2 (List.mem_of_getElem? (i := 78) rfl) rfl
theorem wd_2_79 : Cond.code yX1_oneAt cX1_oneAt 2 (some .int) ∈ wsG := wi_2 (List.mem_of_getElem? (i := 79) rfl) rfl
theorem wd_2_80 : Cond.methodLink RX4 121 yX1_otherAt ∈ wsG := wi_2 (List.mem_of_getElem? (i := 80) rfl) rfl
theorem wd_2_81 : Cond.instanceMethod yX1_otherAt ∈ wsG := wi_2 (List.mem_of_getElem? (i := 81) rfl) rfl
theorem wd_2_82 : Cond.selects RX1 yX1_otherAt yX1_otherAt ∈ wsG := wi_2 (List.mem_of_getElem? (i := 82) rfl) rfl
theorem wd_2_83 : Cond.code yX1_otherAt cX1_otherAt 2 (some .int) ∈ wsG := wi_2 (List.mem_of_getElem? (i := 83) rfl) rfl
theorem wd_2_84 : Cond.methodLink RL 69 yX4_end ∈ wsG := wi_2 (List.mem_of_getElem? (i := 84) rfl) rfl
theorem wd_2_85 : Cond.instanceMethod yX4_end ∈ wsG := wi_2 (List.mem_of_getElem? (i := 85) rfl) rfl
theorem wd_2_86 : Cond.selects RX4 yX4_end yX4_end ∈ wsG := wi_2 (List.mem_of_getElem? (i := 86) rfl) rfl
theorem wd_2_87 : Cond.code yX4_end cX4_end 3 (some .int) ∈ wsG := wi_2 (List.mem_of_getElem? (i := 87) rfl) rfl
theorem wd_2_88 : Cond.methodLink RX4 124 yX1_findEnd ∈ wsG := wi_2 (List.mem_of_getElem? (i := 88) rfl) rfl
theorem wd_2_89 : Cond.instanceMethod yX1_findEnd ∈ wsG := wi_2 (List.mem_of_getElem? (i := 89) rfl) rfl
theorem wd_2_90 : Cond.selects RX1 yX1_findEnd yX1_findEnd ∈ wsG := wi_2 (List.mem_of_getElem? (i := 90) rfl) rfl
theorem wd_2_91 : Cond.code yX1_findEnd cX1_findEnd 6 (some .int) ∈ wsG := wi_2 (List.mem_of_getElem? (i := 91) rfl) rfl
theorem wd_2_92 : Cond.methodLink RX1 42 yX1_otherAt ∈ wsG := wi_2 (List.mem_of_getElem? (i := 92) rfl) rfl
theorem wd_2_93 : Cond.methodLink RX1 46 yX1_oneAt ∈ wsG := wi_2 (List.mem_of_getElem? (i := 93) rfl) rfl
theorem wd_2_94 : Cond.methodLink RL 73 yX4_wet ∈ wsG := wi_2 (List.mem_of_getElem? (i := 94) rfl) rfl
theorem wd_2_95 : Cond.instanceMethod yX4_wet ∈ wsG := wi_2 (List.mem_of_getElem? (i := 95) rfl) rfl
theorem wd_2_96 : Cond.selects RX4 yX4_wet yX4_wet ∈ wsG := wi_2 (List.mem_of_getElem? (i := 96) rfl) rfl
theorem wd_2_97 : Cond.code yX4_wet cX4_wet 2 (some .int) ∈ wsG := wi_2 (List.mem_of_getElem? (i := 97) rfl) rfl
theorem wd_2_98 : Cond.methodLink RX4 127 yX1_withIceAt ∈ wsG := wi_2 (List.mem_of_getElem? (i := 98) rfl) rfl
theorem wd_2_99 : Cond.instanceMethod yX1_withIceAt ∈ wsG := wi_2 (List.mem_of_getElem? (i := 99) rfl) rfl
theorem wd_2_100 : Cond.selects RX1 yX1_withIceAt yX1_withIceAt ∈ wsG := wi_2 (List.mem_of_getElem? (i := 100) rfl) rfl
theorem wd_2_101 : Cond.code yX1_withIceAt cX1_withIceAt 2 (some .int) ∈ wsG := wi_2 (List.mem_of_getElem? (i := 101) rfl) rfl
theorem wd_2_102 : Cond.methodLink RL 77 yX4_firstFallen ∈ wsG := wi_2 (List.mem_of_getElem? (i := 102) rfl) rfl
theorem wd_2_103 : Cond.instanceMethod yX4_firstFallen ∈ wsG := wi_2 (List.mem_of_getElem? (i := 103) rfl) rfl
theorem wd_2_104 : Cond.selects RX4 yX4_firstFallen yX4_firstFallen ∈ wsG := wi_2 (List.mem_of_getElem? (i := 104) rfl) rfl
theorem wd_2_105 : Cond.code yX4_firstFallen cX4_firstFallen 1 (some .int) ∈ wsG := wi_2 (List.mem_of_getElem? (i := 105) rfl) rfl
theorem wd_2_106 : Cond.methodLink RX4 130 yX2_firstVialToFall ∈ wsG := wi_2 (List.mem_of_getElem? (i := 106) rfl) rfl
theorem wd_2_107 : Cond.instanceMethod yX2_firstVialToFall ∈ wsG := wi_2 (List.mem_of_getElem? (i := 107) rfl) rfl
theorem wd_2_108 : Cond.selects RX2 yX2_firstVialToFall yX2_firstVialToFall ∈ wsG := wi_2 (List.mem_of_getElem? (i := 108) rfl) rfl
theorem wd_2_109 : Cond.code yX2_firstVialToFall cX2_firstVialToFall 2 (some .int) ∈ wsG := wi_2 (List.mem_of_getElem? (i := 109) rfl) rfl
theorem wd_2_110 : Cond.methodLink RX2 79 yX2_firstToFall ∈ wsG := wi_2 (List.mem_of_getElem? (i := 110) rfl) rfl
theorem wd_2_111 : Cond.instanceMethod yX2_firstToFall ∈ wsG := wi_2 (List.mem_of_getElem? (i := 111) rfl) rfl
theorem wd_2_112 : Cond.selects RX2 yX2_firstToFall yX2_firstToFall ∈ wsG := wi_2 (List.mem_of_getElem? (i := 112) rfl) rfl
theorem wd_2_113 : Cond.code yX2_firstToFall cX2_firstToFall 2 (some (.object "ColdDryer$Group")) ∈ wsG := wi_2 (List.mem_of_getElem? (i := 113) rfl) rfl
theorem wd_2_114 : Cond.methodLink RL 81 yX4_trial ∈ wsG := wi_2 (List.mem_of_getElem? (i := 114) rfl) rfl
theorem wd_2_115 : Cond.instanceMethod yX4_trial ∈ wsG := wi_2 (List.mem_of_getElem? (i := 115) rfl) rfl
theorem wd_2_116 : Cond.selects RX4 yX4_trial yX4_trial ∈ wsG := wi_2 (List.mem_of_getElem? (i := 116) rfl) rfl
theorem wd_2_117 : Cond.code yX4_trial cX4_trial 4 (some .int) ∈ wsG := wi_2 (List.mem_of_getElem? (i := 117) rfl) rfl
theorem wd_2_118 : Cond.methodLink RX4 133 yX4_isMapped ∈ wsG := wi_2 (List.mem_of_getElem? (i := 118) rfl) rfl
theorem wd_2_119 : Cond.static yX4_isMapped ∈ wsG := wi_2 (List.mem_of_getElem? (i := 119) rfl) rfl
theorem wd_2_120 : Cond.code yX4_isMapped cX4_isMapped 2 (some .boolean) ∈ wsG := wi_2 (List.mem_of_getElem? (i := 120) rfl) rfl
theorem wd_2_121 : Cond.methodLink RX4 136 yX4_noneFalls ∈ wsG := wi_2 (List.mem_of_getElem? (i := 121) rfl) rfl
theorem wd_2_123 : Cond.instanceMethod yX4_noneFalls ∈ wsG := wi_2 (List.mem_of_getElem? (i := 123) rfl) rfl
theorem wd_2_124 : Cond.code yX4_noneFalls cX4_noneFalls 5 (some .boolean) ∈ wsG := wi_2 (List.mem_of_getElem? (i := 124) rfl) rfl
theorem wd_2_125 : Cond.methodLink RX4 155 yX2_fallenVials ∈ wsG := wi_2 (List.mem_of_getElem? (i := 125) rfl) rfl
theorem wd_2_126 : Cond.methodLink RL 85 yX4_tried ∈ wsG := wi_2 (List.mem_of_getElem? (i := 126) rfl) rfl
theorem wd_2_127 : Cond.instanceMethod yX4_tried ∈ wsG := wi_2 (List.mem_of_getElem? (i := 127) rfl) rfl
theorem wd_2_128 : Cond.selects RX4 yX4_tried yX4_tried ∈ wsG := wi_2 (List.mem_of_getElem? (i := 128) rfl) rfl
theorem wd_2_129 : Cond.code yX4_tried cX4_tried 2 (some .int) ∈ wsG := wi_2 (List.mem_of_getElem? (i := 129) rfl) rfl
theorem wd_2_130 : Cond.methodLink RX4 139 yX2_firstToFall ∈ wsG := wi_2 (List.mem_of_getElem? (i := 130) rfl) rfl
theorem wd_2_131 : Cond.methodLink RL 89 yX4_edge ∈ wsG := wi_2 (List.mem_of_getElem? (i := 131) rfl) rfl
theorem wd_2_132 : Cond.instanceMethod yX4_edge ∈ wsG := wi_2 (List.mem_of_getElem? (i := 132) rfl) rfl
theorem wd_2_133 : Cond.selects RX4 yX4_edge yX4_edge ∈ wsG := wi_2 (List.mem_of_getElem? (i := 133) rfl) rfl
theorem wd_2_134 : Cond.code yX4_edge cX4_edge 5 (some .int) ∈ wsG := wi_2 (List.mem_of_getElem? (i := 134) rfl) rfl
theorem wd_2_135 : Cond.methodLink RL 93 yX4_told ∈ wsG := wi_2 (List.mem_of_getElem? (i := 135) rfl) rfl
theorem wd_2_136 : Cond.instanceMethod yX4_told ∈ wsG := wi_2 (List.mem_of_getElem? (i := 136) rfl) rfl
theorem wd_2_137 : Cond.selects RX4 yX4_told yX4_told ∈ wsG := wi_2 (List.mem_of_getElem? (i := 137) rfl) rfl
theorem wd_2_138 : Cond.code yX4_told cX4_told 2 (some .int) ∈ wsG := wi_2 (List.mem_of_getElem? (i := 138) rfl) rfl
theorem wd_2_139 : Cond.methodLink RX4 149 yX3_valueOf ∈ wsG := wi_2 (List.mem_of_getElem? (i := 139) rfl) rfl
theorem wd_2_140 : Cond.classLink RL 10 RX5 ∈ wsG := wi_2 (List.mem_of_getElem? (i := 140) rfl) rfl
theorem wd_2_141 : Cond.instantiable RX5 21 ∈ wsG := wi_2 (List.mem_of_getElem? (i := 141) rfl) rfl
theorem wd_2_142 : Cond.methodLink RL 12 yX5_init ∈ wsG := wi_2 (List.mem_of_getElem? (i := 142) rfl) rfl
theorem wd_2_143 : Cond.instanceMethod yX5_init ∈ wsG := wi_2 (List.mem_of_getElem? (i := 143) rfl) rfl
theorem wd_2_144 : Cond.code yX5_init cX5_init 1 none ∈ wsG := wi_2 (List.mem_of_getElem? (i := 144) rfl) rfl
theorem wd_2_145 : Cond.methodLink RX5 1 objectInit ∈ wsG := wi_2 (List.mem_of_getElem? (i := 145) rfl) rfl
theorem wd_2_146 : Cond.fieldLink RX5 7 "ColdDryerModel" "rows" "I" ∈ wsG := wi_2 (List.mem_of_getElem? (i := 146) rfl) rfl
theorem wd_2_147 : Cond.fieldLink RX5 13 "ColdDryerModel" "columns" "I" ∈ wsG := wi_2 (List.mem_of_getElem? (i := 147) rfl) rfl
theorem wd_2_148 : Cond.fieldLink RX5 16 "ColdDryerModel" "rules" "[I" ∈ wsG := wi_2 (List.mem_of_getElem? (i := 148) rfl) rfl
theorem wd_2_149 : Cond.fieldLink RX5 76 "ColdDryerModel" "isLoaded" "Z" ∈ wsG := wi_2 (List.mem_of_getElem? (i := 149) rfl) rfl
theorem wd_2_150 : Cond.fieldLink RX5 20 "ColdDryerModel" "warmth" "I" ∈ wsG := wi_2 (List.mem_of_getElem? (i := 150) rfl) rfl
theorem wd_2_151 : Cond.fieldLink RX5 23 "ColdDryerModel" "pressureSet" "I" ∈ wsG := wi_2 (List.mem_of_getElem? (i := 151) rfl) rfl
theorem wd_2_152 : Cond.fieldLink RX5 26 "ColdDryerModel" "ice" "[I" ∈ wsG := wi_2 (List.mem_of_getElem? (i := 152) rfl) rfl
theorem wd_2_153 : Cond.fieldLink RX5 29 "ColdDryerModel" "warm" "[I" ∈ wsG := wi_2 (List.mem_of_getElem? (i := 153) rfl) rfl
theorem wd_2_154 : Cond.fieldLink RX5 32 "ColdDryerModel" "gave" "[I" ∈ wsG := wi_2 (List.mem_of_getElem? (i := 154) rfl) rfl
theorem wd_2_155 : Cond.fieldLink RX5 35 "ColdDryerModel" "fell" "[I" ∈ wsG := wi_2 (List.mem_of_getElem? (i := 155) rfl) rfl
theorem wd_2_156 : Cond.fieldLink RX5 38 "ColdDryerModel" "dryAt" "[I" ∈ wsG := wi_2 (List.mem_of_getElem? (i := 156) rfl) rfl
theorem wd_2_157 : Cond.fieldLink RX5 41 "ColdDryerModel" "minute" "[I" ∈ wsG := wi_2 (List.mem_of_getElem? (i := 157) rfl) rfl
theorem wd_2_158 : Cond.fieldLink RX5 44 "ColdDryerModel" "pressure" "[I" ∈ wsG := wi_2 (List.mem_of_getElem? (i := 158) rfl) rfl
theorem wd_2_159 : Cond.fieldLink RX5 47 "ColdDryerModel" "highest" "[I" ∈ wsG := wi_2 (List.mem_of_getElem? (i := 159) rfl) rfl
theorem wd_2_160 : Cond.fieldLink RX5 50 "ColdDryerModel" "all" "[I" ∈ wsG := wi_2 (List.mem_of_getElem? (i := 160) rfl) rfl
theorem wd_2_161 : Cond.fieldLink RX5 53 "ColdDryerModel" "steamed" "[I" ∈ wsG := wi_2 (List.mem_of_getElem? (i := 161) rfl) rfl
theorem wd_2_162 : Cond.fieldLink RX5 56 "ColdDryerModel" "one" "[I" ∈ wsG := wi_2 (List.mem_of_getElem? (i := 162) rfl) rfl
theorem wd_2_163 : Cond.fieldLink RX5 59 "ColdDryerModel" "other" "[I" ∈ wsG := wi_2 (List.mem_of_getElem? (i := 163) rfl) rfl
theorem wd_2_164 : Cond.fieldLink RX5 62 "ColdDryerModel" "wet" "[I" ∈ wsG := wi_2 (List.mem_of_getElem? (i := 164) rfl) rfl
theorem wd_2_165 : Cond.fieldLink RX5 144 "ColdDryerModel" "hasTried" "Z" ∈ wsG := wi_2 (List.mem_of_getElem? (i := 165) rfl) rfl
theorem wd_2_166 : Cond.fieldLink RX5 65 "ColdDryerModel" "tried" "[I" ∈ wsG := wi_2 (List.mem_of_getElem? (i := 166) rfl) rfl
theorem wd_2_167 : Cond.lays RX5 "ColdDryerModel" "rows" "I" ∈ wsG := wi_2 (List.mem_of_getElem? (i := 167) rfl) rfl
theorem wd_2_169 : Cond.lays RX5 "ColdDryerModel" "columns" "I" ∈ wsG := wi_2 (List.mem_of_getElem? (i := 169) rfl) rfl
theorem wd_2_171 : Cond.laysFinal RX5 "ColdDryerModel" "rules" "[I" ∈ wsG := wi_2 (List.mem_of_getElem? (i := 171) rfl) rfl
theorem wd_2_173 : Cond.lays RX5 "ColdDryerModel" "isLoaded" "Z" ∈ wsG := wi_2 (List.mem_of_getElem? (i := 173) rfl) rfl
theorem wd_2_175 : Cond.lays RX5 "ColdDryerModel" "warmth" "I" ∈ wsG := wi_2 (List.mem_of_getElem? (i := 175) rfl) rfl
theorem wd_2_177 : Cond.lays RX5 "ColdDryerModel" "pressureSet" "I" ∈ wsG := wi_2 (List.mem_of_getElem? (i := 177) rfl) rfl
theorem wd_2_179 : Cond.laysFinal RX5 "ColdDryerModel" "ice" "[I" ∈ wsG := wi_2 (List.mem_of_getElem? (i := 179) rfl) rfl
theorem wd_2_181 : Cond.laysFinal RX5 "ColdDryerModel" "warm" "[I" ∈ wsG := wi_2 (List.mem_of_getElem? (i := 181) rfl) rfl
theorem wd_2_183 : Cond.laysFinal RX5 "ColdDryerModel" "gave" "[I" ∈ wsG := wi_2 (List.mem_of_getElem? (i := 183) rfl) rfl
theorem wd_2_185 : Cond.laysFinal RX5 "ColdDryerModel" "fell" "[I" ∈ wsG := wi_2 (List.mem_of_getElem? (i := 185) rfl) rfl
theorem wd_2_187 : Cond.laysFinal RX5 "ColdDryerModel" "dryAt" "[I" ∈ wsG := wi_2 (List.mem_of_getElem? (i := 187) rfl) rfl
theorem wd_2_189 : Cond.laysFinal RX5 "ColdDryerModel" "minute" "[I" ∈ wsG := wi_2 (List.mem_of_getElem? (i := 189) rfl) rfl
theorem wd_2_191 : Cond.laysFinal RX5 "ColdDryerModel" "pressure" "[I" ∈ wsG := wi_2 (List.mem_of_getElem? (i := 191) rfl) rfl
theorem wd_2_193 : Cond.laysFinal RX5 "ColdDryerModel" "highest" "[I" ∈ wsG := wi_2 (List.mem_of_getElem? (i := 193) rfl) rfl
theorem wd_2_195 : Cond.laysFinal RX5 "ColdDryerModel" "all" "[I" ∈ wsG := wi_2 (List.mem_of_getElem? (i := 195) rfl) rfl
theorem wd_2_197 : Cond.laysFinal RX5 "ColdDryerModel" "steamed" "[I" ∈ wsG := wi_2 (List.mem_of_getElem? (i := 197) rfl) rfl
theorem wd_2_199 : Cond.laysFinal RX5 "ColdDryerModel" "one" "[I" ∈ wsG := wi_2 (List.mem_of_getElem? (i := 199) rfl) rfl
theorem wd_2_201 : Cond.laysFinal RX5 "ColdDryerModel" "other" "[I" ∈ wsG := wi_2 (List.mem_of_getElem? (i := 201) rfl) rfl
theorem wd_2_203 : Cond.laysFinal RX5 "ColdDryerModel" "wet" "[I" ∈ wsG := wi_2 (List.mem_of_getElem? (i := 203) rfl) rfl
theorem wd_2_205 : Cond.lays RX5 "ColdDryerModel" "hasTried" "Z" ∈ wsG := wi_2 (List.mem_of_getElem? (i := 205) rfl) rfl
theorem wd_2_207 : Cond.laysFinal RX5 "ColdDryerModel" "tried" "[I" ∈ wsG := wi_2 (List.mem_of_getElem? (i := 207) rfl) rfl
theorem wd_2_210 : Cond.methodLink RL 17 yX5_shelf ∈ wsG := wi_2 (List.mem_of_getElem? (i := 210) rfl) rfl
theorem wd_2_211 : Cond.instanceMethod yX5_shelf ∈ wsG := wi_2 (List.mem_of_getElem? (i := 211) rfl) rfl
theorem wd_2_212 : Cond.selects RX5 yX5_shelf yX5_shelf ∈ wsG := wi_2 (List.mem_of_getElem? (i := 212) rfl) rfl
theorem wd_2_213 : Cond.code yX5_shelf cX5_shelf 3 (some .int) ∈ wsG := wi_2 (List.mem_of_getElem? (i := 213) rfl) rfl
theorem wd_2_214 : Cond.constantLong RX5 68 (4) ∈ wsG := wi_2 (List.mem_of_getElem? (i := 214) rfl) rfl
theorem wd_2_215 : Cond.methodLink RX5 70 yX5_in ∈ wsG := wi_2 (List.mem_of_getElem? (i := 215) rfl) rfl
theorem wd_2_216 : Cond.static yX5_in ∈ wsG := wi_2 (List.mem_of_getElem? (i := 216) rfl) rfl
theorem wd_2_217 : Cond.code yX5_in cX5_in 6 (some .boolean) ∈ wsG := wi_2 (List.mem_of_getElem? (i := 217) rfl) rfl
theorem wd_2_218 : Cond.constantLong RX5 74 (6) ∈ wsG := wi_2 (List.mem_of_getElem? (i := 218) rfl) rfl
theorem wd_2_219 : Cond.methodLink RX5 80 yX5_vials ∈ wsG := wi_2 (List.mem_of_getElem? (i := 219) rfl) rfl
theorem wd_2_221 : Cond.instanceMethod yX5_vials ∈ wsG := wi_2 (List.mem_of_getElem? (i := 221) rfl) rfl
theorem wd_2_222 : Cond.code yX5_vials cX5_vials 1 (some .int) ∈ wsG := wi_2 (List.mem_of_getElem? (i := 222) rfl) rfl
theorem wd_2_223 : Cond.methodLink RL 21 yX5_rule ∈ wsG := wi_2 (List.mem_of_getElem? (i := 223) rfl) rfl
theorem wd_2_224 : Cond.instanceMethod yX5_rule ∈ wsG := wi_2 (List.mem_of_getElem? (i := 224) rfl) rfl
theorem wd_2_225 : Cond.selects RX5 yX5_rule yX5_rule ∈ wsG := wi_2 (List.mem_of_getElem? (i := 225) rfl) rfl
theorem wd_2_226 : Cond.code yX5_rule cX5_rule 4 (some .int) ∈ wsG := wi_2 (List.mem_of_getElem? (i := 226) rfl) rfl
theorem wd_2_227 : Cond.constantLong RX5 84 (10) ∈ wsG := wi_2 (List.mem_of_getElem? (i := 227) rfl) rfl
theorem wd_2_228 : Cond.methodLink RX5 86 yX5_leastOf ∈ wsG := wi_2 (List.mem_of_getElem? (i := 228) rfl) rfl
theorem wd_2_229 : Cond.static yX5_leastOf ∈ wsG := wi_2 (List.mem_of_getElem? (i := 229) rfl) rfl
theorem wd_2_230 : Cond.code yX5_leastOf cX5_leastOf 1 (some .int) ∈ wsG := wi_2 (List.mem_of_getElem? (i := 230) rfl) rfl
theorem wd_2_231 : Cond.methodLink RX5 90 yX5_mostOf ∈ wsG := wi_2 (List.mem_of_getElem? (i := 231) rfl) rfl
theorem wd_2_232 : Cond.static yX5_mostOf ∈ wsG := wi_2 (List.mem_of_getElem? (i := 232) rfl) rfl
theorem wd_2_233 : Cond.code yX5_mostOf cX5_mostOf 1 (some .int) ∈ wsG := wi_2 (List.mem_of_getElem? (i := 233) rfl) rfl
theorem wd_2_234 : Cond.methodLink RL 26 yX5_vapour ∈ wsG := wi_2 (List.mem_of_getElem? (i := 234) rfl) rfl
theorem wd_2_235 : Cond.instanceMethod yX5_vapour ∈ wsG := wi_2 (List.mem_of_getElem? (i := 235) rfl) rfl
theorem wd_2_236 : Cond.selects RX5 yX5_vapour yX5_vapour ∈ wsG := wi_2 (List.mem_of_getElem? (i := 236) rfl) rfl
theorem wd_2_237 : Cond.code yX5_vapour cX5_vapour 2 (some .int) ∈ wsG := wi_2 (List.mem_of_getElem? (i := 237) rfl) rfl
theorem wd_2_238 : Cond.constantLong RX5 96 (-600) ∈ wsG := wi_2 (List.mem_of_getElem? (i := 238) rfl) rfl
theorem wd_2_239 : Cond.methodLink RX5 98 yX5_vapourAt ∈ wsG := wi_2 (List.mem_of_getElem? (i := 239) rfl) rfl
theorem wd_3_0 : Cond.static yX5_vapourAt ∈ wsG := wi_3 (List.mem_of_getElem? (i := 0) rfl) rfl
theorem wd_3_1 : Cond.code yX5_vapourAt cX5_vapourAt 3 (some .int) ∈ wsG := wi_3 (List.mem_of_getElem? (i := 1) rfl) rfl
theorem wd_3_2 : Cond.methodLink RX5 93 yX5_bend ∈ wsG := wi_3 (List.mem_of_getElem? (i := 2) rfl) rfl
theorem wd_3_3 : Cond.static yX5_bend ∈ wsG := wi_3 (List.mem_of_getElem? (i := 3) rfl) rfl
theorem wd_3_4 : Cond.code yX5_bend cX5_bend 1 (some .int) ∈ wsG := wi_3 (List.mem_of_getElem? (i := 4) rfl) rfl
theorem wd_3_5 : Cond.methodLink RL 31 yX5_steam ∈ wsG := wi_3 (List.mem_of_getElem? (i := 5) rfl) rfl
theorem wd_3_6 : Cond.instanceMethod yX5_steam ∈ wsG := wi_3 (List.mem_of_getElem? (i := 6) rfl) rfl
theorem wd_3_7 : Cond.selects RX5 yX5_steam yX5_steam ∈ wsG := wi_3 (List.mem_of_getElem? (i := 7) rfl) rfl
theorem wd_3_8 : Cond.code yX5_steam cX5_steam 4 (some .int) ∈ wsG := wi_3 (List.mem_of_getElem? (i := 8) rfl) rfl
theorem wd_3_9 : Cond.constantLong RX5 101 (100) ∈ wsG := wi_3 (List.mem_of_getElem? (i := 9) rfl) rfl
theorem wd_3_10 : Cond.constantLong RX5 103 (20000) ∈ wsG := wi_3 (List.mem_of_getElem? (i := 10) rfl) rfl
theorem wd_3_11 : Cond.methodLink RX5 105 yX5_steamAt ∈ wsG := wi_3 (List.mem_of_getElem? (i := 11) rfl) rfl
theorem wd_3_13 : Cond.instanceMethod yX5_steamAt ∈ wsG := wi_3 (List.mem_of_getElem? (i := 13) rfl) rfl
theorem wd_3_14 : Cond.code yX5_steamAt cX5_steamAt 5 (some .int) ∈ wsG := wi_3 (List.mem_of_getElem? (i := 14) rfl) rfl
theorem wd_3_15 : Cond.methodLink RL 35 yX5_rim ∈ wsG := wi_3 (List.mem_of_getElem? (i := 15) rfl) rfl
theorem wd_3_16 : Cond.instanceMethod yX5_rim ∈ wsG := wi_3 (List.mem_of_getElem? (i := 16) rfl) rfl
theorem wd_3_17 : Cond.selects RX5 yX5_rim yX5_rim ∈ wsG := wi_3 (List.mem_of_getElem? (i := 17) rfl) rfl
theorem wd_3_18 : Cond.code yX5_rim cX5_rim 2 (some .int) ∈ wsG := wi_3 (List.mem_of_getElem? (i := 18) rfl) rfl
theorem wd_3_19 : Cond.methodLink RX5 109 yX5_isRim ∈ wsG := wi_3 (List.mem_of_getElem? (i := 19) rfl) rfl
theorem wd_3_21 : Cond.instanceMethod yX5_isRim ∈ wsG := wi_3 (List.mem_of_getElem? (i := 21) rfl) rfl
theorem wd_3_22 : Cond.code yX5_isRim cX5_isRim 4 (some .boolean) ∈ wsG := wi_3 (List.mem_of_getElem? (i := 22) rfl) rfl
theorem wd_3_23 : Cond.methodLink RL 40 yX5_load ∈ wsG := wi_3 (List.mem_of_getElem? (i := 23) rfl) rfl
theorem wd_3_24 : Cond.instanceMethod yX5_load ∈ wsG := wi_3 (List.mem_of_getElem? (i := 24) rfl) rfl
theorem wd_3_25 : Cond.selects RX5 yX5_load yX5_load ∈ wsG := wi_3 (List.mem_of_getElem? (i := 25) rfl) rfl
theorem wd_3_26 : Cond.code yX5_load cX5_load 1 (some .int) ∈ wsG := wi_3 (List.mem_of_getElem? (i := 26) rfl) rfl
theorem wd_3_27 : Cond.methodLink RX5 120 yX5_fill ∈ wsG := wi_3 (List.mem_of_getElem? (i := 27) rfl) rfl
theorem wd_3_29 : Cond.instanceMethod yX5_fill ∈ wsG := wi_3 (List.mem_of_getElem? (i := 29) rfl) rfl
theorem wd_3_30 : Cond.code yX5_fill cX5_fill 4 none ∈ wsG := wi_3 (List.mem_of_getElem? (i := 30) rfl) rfl
theorem wd_3_31 : Cond.methodLink RL 44 yX5_warm ∈ wsG := wi_3 (List.mem_of_getElem? (i := 31) rfl) rfl
theorem wd_3_32 : Cond.instanceMethod yX5_warm ∈ wsG := wi_3 (List.mem_of_getElem? (i := 32) rfl) rfl
theorem wd_3_33 : Cond.selects RX5 yX5_warm yX5_warm ∈ wsG := wi_3 (List.mem_of_getElem? (i := 33) rfl) rfl
theorem wd_3_34 : Cond.code yX5_warm cX5_warm 3 (some .int) ∈ wsG := wi_3 (List.mem_of_getElem? (i := 34) rfl) rfl
theorem wd_3_35 : Cond.constantLong RX5 124 (400) ∈ wsG := wi_3 (List.mem_of_getElem? (i := 35) rfl) rfl
theorem wd_3_36 : Cond.methodLink RL 48 yX5_set ∈ wsG := wi_3 (List.mem_of_getElem? (i := 36) rfl) rfl
theorem wd_3_37 : Cond.instanceMethod yX5_set ∈ wsG := wi_3 (List.mem_of_getElem? (i := 37) rfl) rfl
theorem wd_3_38 : Cond.selects RX5 yX5_set yX5_set ∈ wsG := wi_3 (List.mem_of_getElem? (i := 38) rfl) rfl
theorem wd_3_39 : Cond.code yX5_set cX5_set 3 (some .int) ∈ wsG := wi_3 (List.mem_of_getElem? (i := 39) rfl) rfl
theorem wd_3_40 : Cond.constantLong RX5 126 (5000) ∈ wsG := wi_3 (List.mem_of_getElem? (i := 40) rfl) rfl
theorem wd_3_41 : Cond.methodLink RL 52 yX5_run ∈ wsG := wi_3 (List.mem_of_getElem? (i := 41) rfl) rfl
theorem wd_3_42 : Cond.instanceMethod yX5_run ∈ wsG := wi_3 (List.mem_of_getElem? (i := 42) rfl) rfl
theorem wd_3_43 : Cond.selects RX5 yX5_run yX5_run ∈ wsG := wi_3 (List.mem_of_getElem? (i := 43) rfl) rfl
theorem wd_3_44 : Cond.code yX5_run cX5_run 4 (some .int) ∈ wsG := wi_3 (List.mem_of_getElem? (i := 44) rfl) rfl
theorem wd_3_45 : Cond.constantLong RX5 128 (500) ∈ wsG := wi_3 (List.mem_of_getElem? (i := 45) rfl) rfl
theorem wd_3_46 : Cond.methodLink RX5 130 yX5_goOn ∈ wsG := wi_3 (List.mem_of_getElem? (i := 46) rfl) rfl
theorem wd_3_48 : Cond.instanceMethod yX5_goOn ∈ wsG := wi_3 (List.mem_of_getElem? (i := 48) rfl) rfl
theorem wd_3_49 : Cond.code yX5_goOn cX5_goOn 10 none ∈ wsG := wi_3 (List.mem_of_getElem? (i := 49) rfl) rfl
theorem wd_3_50 : Cond.methodLink RX5 117 yX5_warmthOf ∈ wsG := wi_3 (List.mem_of_getElem? (i := 50) rfl) rfl
theorem wd_3_52 : Cond.instanceMethod yX5_warmthOf ∈ wsG := wi_3 (List.mem_of_getElem? (i := 52) rfl) rfl
theorem wd_3_53 : Cond.code yX5_warmthOf cX5_warmthOf 7 (some .int) ∈ wsG := wi_3 (List.mem_of_getElem? (i := 53) rfl) rfl
theorem wd_3_54 : Cond.methodLink RX5 113 yX5_holds ∈ wsG := wi_3 (List.mem_of_getElem? (i := 54) rfl) rfl
theorem wd_3_56 : Cond.instanceMethod yX5_holds ∈ wsG := wi_3 (List.mem_of_getElem? (i := 56) rfl) rfl
theorem wd_3_57 : Cond.code yX5_holds cX5_holds 7 (some .boolean) ∈ wsG := wi_3 (List.mem_of_getElem? (i := 57) rfl) rfl
theorem wd_3_58 : Cond.methodLink RX5 134 yX5_wetOf ∈ wsG := wi_3 (List.mem_of_getElem? (i := 58) rfl) rfl
theorem wd_3_60 : Cond.instanceMethod yX5_wetOf ∈ wsG := wi_3 (List.mem_of_getElem? (i := 60) rfl) rfl
theorem wd_3_61 : Cond.code yX5_wetOf cX5_wetOf 4 (some .int) ∈ wsG := wi_3 (List.mem_of_getElem? (i := 61) rfl) rfl
theorem wd_3_62 : Cond.methodLink RL 56 yX5_unload ∈ wsG := wi_3 (List.mem_of_getElem? (i := 62) rfl) rfl
theorem wd_3_63 : Cond.instanceMethod yX5_unload ∈ wsG := wi_3 (List.mem_of_getElem? (i := 63) rfl) rfl
theorem wd_3_64 : Cond.selects RX5 yX5_unload yX5_unload ∈ wsG := wi_3 (List.mem_of_getElem? (i := 64) rfl) rfl
theorem wd_3_65 : Cond.code yX5_unload cX5_unload 1 (some .int) ∈ wsG := wi_3 (List.mem_of_getElem? (i := 65) rfl) rfl
theorem wd_3_66 : Cond.methodLink RL 60 yX5_vial ∈ wsG := wi_3 (List.mem_of_getElem? (i := 66) rfl) rfl
theorem wd_3_67 : Cond.instanceMethod yX5_vial ∈ wsG := wi_3 (List.mem_of_getElem? (i := 67) rfl) rfl
theorem wd_3_68 : Cond.selects RX5 yX5_vial yX5_vial ∈ wsG := wi_3 (List.mem_of_getElem? (i := 68) rfl) rfl
theorem wd_3_69 : Cond.code yX5_vial cX5_vial 3 (some .int) ∈ wsG := wi_3 (List.mem_of_getElem? (i := 69) rfl) rfl
theorem wd_3_70 : Cond.methodLink RL 64 yX5_about ∈ wsG := wi_3 (List.mem_of_getElem? (i := 70) rfl) rfl
theorem wd_3_71 : Cond.instanceMethod yX5_about ∈ wsG := wi_3 (List.mem_of_getElem? (i := 71) rfl) rfl
theorem wd_3_72 : Cond.selects RX5 yX5_about yX5_about ∈ wsG := wi_3 (List.mem_of_getElem? (i := 72) rfl) rfl
theorem wd_3_73 : Cond.code yX5_about cX5_about 5 (some .int) ∈ wsG := wi_3 (List.mem_of_getElem? (i := 73) rfl) rfl
theorem wd_3_74 : Cond.constantLong RX5 137 (9) ∈ wsG := wi_3 (List.mem_of_getElem? (i := 74) rfl) rfl
theorem wd_3_75 : Cond.methodLink RL 68 yX5_gauge ∈ wsG := wi_3 (List.mem_of_getElem? (i := 75) rfl) rfl
theorem wd_3_76 : Cond.instanceMethod yX5_gauge ∈ wsG := wi_3 (List.mem_of_getElem? (i := 76) rfl) rfl
theorem wd_3_77 : Cond.selects RX5 yX5_gauge yX5_gauge ∈ wsG := wi_3 (List.mem_of_getElem? (i := 77) rfl) rfl
theorem wd_3_78 : Cond.code yX5_gauge cX5_gauge 3 (some .int) ∈ wsG := wi_3 (List.mem_of_getElem? (i := 78) rfl) rfl
theorem wd_3_79 : Cond.methodLink RL 72 yX5_end ∈ wsG := wi_3 (List.mem_of_getElem? (i := 79) rfl) rfl
theorem wd_3_80 : Cond.instanceMethod yX5_end ∈ wsG := wi_3 (List.mem_of_getElem? (i := 80) rfl) rfl
theorem wd_3_81 : Cond.selects RX5 yX5_end yX5_end ∈ wsG := wi_3 (List.mem_of_getElem? (i := 81) rfl) rfl
theorem wd_3_82 : Cond.code yX5_end cX5_end 5 (some .int) ∈ wsG := wi_3 (List.mem_of_getElem? (i := 82) rfl) rfl
theorem wd_3_83 : Cond.constantLong RX5 139 (60) ∈ wsG := wi_3 (List.mem_of_getElem? (i := 83) rfl) rfl
theorem wd_3_84 : Cond.methodLink RL 76 yX5_wet ∈ wsG := wi_3 (List.mem_of_getElem? (i := 84) rfl) rfl
theorem wd_3_85 : Cond.instanceMethod yX5_wet ∈ wsG := wi_3 (List.mem_of_getElem? (i := 85) rfl) rfl
theorem wd_3_86 : Cond.selects RX5 yX5_wet yX5_wet ∈ wsG := wi_3 (List.mem_of_getElem? (i := 86) rfl) rfl
theorem wd_3_87 : Cond.code yX5_wet cX5_wet 2 (some .int) ∈ wsG := wi_3 (List.mem_of_getElem? (i := 87) rfl) rfl
theorem wd_3_88 : Cond.methodLink RL 80 yX5_firstFallen ∈ wsG := wi_3 (List.mem_of_getElem? (i := 88) rfl) rfl
theorem wd_3_89 : Cond.instanceMethod yX5_firstFallen ∈ wsG := wi_3 (List.mem_of_getElem? (i := 89) rfl) rfl
theorem wd_3_90 : Cond.selects RX5 yX5_firstFallen yX5_firstFallen ∈ wsG := wi_3 (List.mem_of_getElem? (i := 90) rfl) rfl
theorem wd_3_91 : Cond.code yX5_firstFallen cX5_firstFallen 1 (some .int) ∈ wsG := wi_3 (List.mem_of_getElem? (i := 91) rfl) rfl
theorem wd_3_92 : Cond.methodLink RX5 141 yX5_firstOf ∈ wsG := wi_3 (List.mem_of_getElem? (i := 92) rfl) rfl
theorem wd_3_94 : Cond.instanceMethod yX5_firstOf ∈ wsG := wi_3 (List.mem_of_getElem? (i := 94) rfl) rfl
theorem wd_3_95 : Cond.code yX5_firstOf cX5_firstOf 5 (some .int) ∈ wsG := wi_3 (List.mem_of_getElem? (i := 95) rfl) rfl
theorem wd_3_96 : Cond.methodLink RL 84 yX5_trial ∈ wsG := wi_3 (List.mem_of_getElem? (i := 96) rfl) rfl
theorem wd_3_97 : Cond.instanceMethod yX5_trial ∈ wsG := wi_3 (List.mem_of_getElem? (i := 97) rfl) rfl
theorem wd_3_98 : Cond.selects RX5 yX5_trial yX5_trial ∈ wsG := wi_3 (List.mem_of_getElem? (i := 98) rfl) rfl
theorem wd_3_99 : Cond.code yX5_trial cX5_trial 5 (some .int) ∈ wsG := wi_3 (List.mem_of_getElem? (i := 99) rfl) rfl
theorem wd_3_100 : Cond.methodLink RX5 147 yX5_tries ∈ wsG := wi_3 (List.mem_of_getElem? (i := 100) rfl) rfl
theorem wd_3_102 : Cond.instanceMethod yX5_tries ∈ wsG := wi_3 (List.mem_of_getElem? (i := 102) rfl) rfl
theorem wd_3_103 : Cond.code yX5_tries cX5_tries 6 (some .int) ∈ wsG := wi_3 (List.mem_of_getElem? (i := 103) rfl) rfl
theorem wd_3_104 : Cond.methodLink RL 88 yX5_tried ∈ wsG := wi_3 (List.mem_of_getElem? (i := 104) rfl) rfl
theorem wd_3_105 : Cond.instanceMethod yX5_tried ∈ wsG := wi_3 (List.mem_of_getElem? (i := 105) rfl) rfl
theorem wd_3_106 : Cond.selects RX5 yX5_tried yX5_tried ∈ wsG := wi_3 (List.mem_of_getElem? (i := 106) rfl) rfl
theorem wd_3_107 : Cond.code yX5_tried cX5_tried 2 (some .int) ∈ wsG := wi_3 (List.mem_of_getElem? (i := 107) rfl) rfl
theorem wd_3_108 : Cond.methodLink RL 92 yX5_edge ∈ wsG := wi_3 (List.mem_of_getElem? (i := 108) rfl) rfl
theorem wd_3_109 : Cond.instanceMethod yX5_edge ∈ wsG := wi_3 (List.mem_of_getElem? (i := 109) rfl) rfl
theorem wd_3_110 : Cond.selects RX5 yX5_edge yX5_edge ∈ wsG := wi_3 (List.mem_of_getElem? (i := 110) rfl) rfl
theorem wd_3_111 : Cond.code yX5_edge cX5_edge 4 (some .int) ∈ wsG := wi_3 (List.mem_of_getElem? (i := 111) rfl) rfl
theorem wd_3_112 : Cond.methodLink RL 96 yX5_told ∈ wsG := wi_3 (List.mem_of_getElem? (i := 112) rfl) rfl
theorem wd_3_113 : Cond.instanceMethod yX5_told ∈ wsG := wi_3 (List.mem_of_getElem? (i := 113) rfl) rfl
theorem wd_3_114 : Cond.selects RX5 yX5_told yX5_told ∈ wsG := wi_3 (List.mem_of_getElem? (i := 114) rfl) rfl
theorem wd_3_115 : Cond.code yX5_told cX5_told 2 (some .int) ∈ wsG := wi_3 (List.mem_of_getElem? (i := 115) rfl) rfl
theorem wd_3_116 : Cond.constantLong RX5 150 (20) ∈ wsG := wi_3 (List.mem_of_getElem? (i := 116) rfl) rfl
theorem wd_0_0 : Cond.selects RX4 yX4_places yX4_places ∈ wsG := wi_0 (List.mem_of_getElem? (i := 0) rfl) rfl
theorem wd_0_1 : Cond.selects RX4 yX4_isAtRim yX4_isAtRim ∈ wsG := wi_0 (List.mem_of_getElem? (i := 1) rfl) rfl
theorem wd_0_2 : Cond.selects RX0 yX0_balance yX0_balance ∈ wsG := wi_0 (List.mem_of_getElem? (i := 2) rfl) rfl
theorem wd_0_3 : Cond.selects RX2 yX2_pressureBehind yX2_pressureBehind ∈ wsG := wi_0 (List.mem_of_getElem? (i := 3) rfl) rfl
theorem wd_0_4 : Cond.selects RX4 yX4_noneFalls yX4_noneFalls ∈ wsG := wi_0 (List.mem_of_getElem? (i := 4) rfl) rfl
theorem wd_0_5 : Cond.selects RX5 yX5_vials yX5_vials ∈ wsG := wi_0 (List.mem_of_getElem? (i := 5) rfl) rfl
theorem wd_0_6 : Cond.selects RX5 yX5_steamAt yX5_steamAt ∈ wsG := wi_0 (List.mem_of_getElem? (i := 6) rfl) rfl
theorem wd_0_7 : Cond.selects RX5 yX5_isRim yX5_isRim ∈ wsG := wi_0 (List.mem_of_getElem? (i := 7) rfl) rfl
theorem wd_0_8 : Cond.selects RX5 yX5_fill yX5_fill ∈ wsG := wi_0 (List.mem_of_getElem? (i := 8) rfl) rfl
theorem wd_0_9 : Cond.selects RX5 yX5_goOn yX5_goOn ∈ wsG := wi_0 (List.mem_of_getElem? (i := 9) rfl) rfl
theorem wd_0_10 : Cond.selects RX5 yX5_warmthOf yX5_warmthOf ∈ wsG := wi_0 (List.mem_of_getElem? (i := 10) rfl) rfl
theorem wd_0_11 : Cond.selects RX5 yX5_holds yX5_holds ∈ wsG := wi_0 (List.mem_of_getElem? (i := 11) rfl) rfl
theorem wd_0_12 : Cond.selects RX5 yX5_wetOf yX5_wetOf ∈ wsG := wi_0 (List.mem_of_getElem? (i := 12) rfl) rfl
theorem wd_0_13 : Cond.selects RX5 yX5_firstOf yX5_firstOf ∈ wsG := wi_0 (List.mem_of_getElem? (i := 13) rfl) rfl
theorem wd_0_14 : Cond.selects RX5 yX5_tries yX5_tries ∈ wsG := wi_0 (List.mem_of_getElem? (i := 14) rfl) rfl
theorem igX0 : ∀ w ∈ u_ws RX0 TX0 8, w ∈ wsG := by
  intro w h
  obtain ⟨k, hk, rfl⟩ := List.mem_map.mp h
  have hk := List.mem_range.mp hk
  rcases (by omega : k = 0 ∨ k = 1 ∨ k = 2 ∨ k = 3 ∨ k = 4 ∨ k = 5 ∨ k = 6 ∨ k = 7) with rfl | rfl | rfl | rfl | rfl | rfl | rfl | rfl
  · exact wd_1_59
  · exact wd_1_61
  · exact wd_1_63
  · exact wd_1_65
  · exact wd_1_67
  · exact wd_1_69
  · exact wd_1_71
  · exact wd_1_73
theorem igX1 : ∀ w ∈ u_ws RX1 TX1 3, w ∈ wsG := by
  intro w h
  obtain ⟨k, hk, rfl⟩ := List.mem_map.mp h
  have hk := List.mem_range.mp hk
  rcases (by omega : k = 0 ∨ k = 1 ∨ k = 2) with rfl | rfl | rfl
  · exact wd_1_113
  · exact wd_1_115
  · exact wd_1_117
theorem igX2 : ∀ w ∈ u_ws RX2 TX2 7, w ∈ wsG := by
  intro w h
  obtain ⟨k, hk, rfl⟩ := List.mem_map.mp h
  have hk := List.mem_range.mp hk
  rcases (by omega : k = 0 ∨ k = 1 ∨ k = 2 ∨ k = 3 ∨ k = 4 ∨ k = 5 ∨ k = 6) with rfl | rfl | rfl | rfl | rfl | rfl | rfl
  · exact wd_1_89
  · exact wd_1_91
  · exact wd_1_93
  · exact wd_1_95
  · exact wd_1_97
  · exact wd_1_99
  · exact wd_1_101
theorem igX3 : ∀ w ∈ u_ws RX3 TX3 1, w ∈ wsG := by
  intro w h
  obtain ⟨k, hk, rfl⟩ := List.mem_map.mp h
  have hk := List.mem_range.mp hk
  rcases (by omega : k = 0) with rfl
  · exact wd_1_29
theorem igX4 : ∀ w ∈ u_ws RX4 TX4 10, w ∈ wsG := by
  intro w h
  obtain ⟨k, hk, rfl⟩ := List.mem_map.mp h
  have hk := List.mem_range.mp hk
  rcases (by omega : k = 0 ∨ k = 1 ∨ k = 2 ∨ k = 3 ∨ k = 4 ∨ k = 5 ∨ k = 6 ∨ k = 7 ∨ k = 8 ∨ k = 9) with rfl | rfl | rfl | rfl | rfl | rfl | rfl | rfl | rfl | rfl
  · exact wd_1_130
  · exact wd_1_132
  · exact wd_1_134
  · exact wd_1_136
  · exact wd_1_138
  · exact wd_1_140
  · exact wd_1_142
  · exact wd_1_144
  · exact wd_1_146
  · exact wd_1_148
theorem igX5 : ∀ w ∈ u_ws RX5 TX5 21, w ∈ wsG := by
  intro w h
  obtain ⟨k, hk, rfl⟩ := List.mem_map.mp h
  have hk := List.mem_range.mp hk
  rcases (by omega : k = 0 ∨ k = 1 ∨ k = 2 ∨ k = 3 ∨ k = 4 ∨ k = 5 ∨ k = 6 ∨ k = 7 ∨ k = 8 ∨ k = 9 ∨ k = 10 ∨ k = 11 ∨ k = 12 ∨ k = 13 ∨ k = 14 ∨ k = 15 ∨ k = 16 ∨ k = 17 ∨ k = 18 ∨ k = 19 ∨ k = 20) with rfl | rfl | rfl | rfl | rfl | rfl | rfl | rfl | rfl | rfl | rfl | rfl | rfl | rfl | rfl | rfl | rfl | rfl | rfl | rfl | rfl
  · exact wd_2_167
  · exact wd_2_169
  · exact wd_2_171
  · exact wd_2_173
  · exact wd_2_175
  · exact wd_2_177
  · exact wd_2_179
  · exact wd_2_181
  · exact wd_2_183
  · exact wd_2_185
  · exact wd_2_187
  · exact wd_2_189
  · exact wd_2_191
  · exact wd_2_193
  · exact wd_2_195
  · exact wd_2_197
  · exact wd_2_199
  · exact wd_2_201
  · exact wd_2_203
  · exact wd_2_205
  · exact wd_2_207
end
section
/-! ===== one list of words for all methods; what a method's start and end are; the call, once ===== -/
def fLEAST : Nat → Int32 := fun k => ([100, 1, 0, 1, 10, 0, -600, 1, 1, 1, 1] : List Int32).getD k 0
def fMOST : Nat → Int32 := fun k => ([5000, 50, 50, 50, 1000, 50, 0, 10000, 100, 500, 1000] : List Int32).getD k 0
def fFIRST : Nat → Int32 := fun k => ([1000, 10, 3, 20, 100, 5, -200, 300, 5, 20, 10] : List Int32).getD k 0
/-- the links to private methods of nest mates -/
def NL (U : State) : Prop := va_Nw (.methodLinkNest RX0 42 yX4_quotient RX4) U ∧ va_Nw (.methodLinkNest RX0 53 yX4_steamAt RX4) U ∧ va_Nw (.methodLinkNest RX1 49 yX4_within RX4) U ∧ va_Nw (.methodLinkNest RX2 11 yX0_init RX4) U ∧ va_Nw (.methodLinkNest RX2 67 yX4_quotient RX4) U ∧ va_Nw (.methodLinkNest RX3 22 yX4_within RX4) U
theorem NL.warm {s U : State} (hW : s.WarmedH U.vm) (h : NL s) : NL U := ⟨va_Nw.warmM hW h.1, va_Nw.warmM hW h.2.1, va_Nw.warmM hW h.2.2.1, va_Nw.warmM hW h.2.2.2.1, va_Nw.warmM hW h.2.2.2.2.1, va_Nw.warmM hW h.2.2.2.2.2⟩
theorem NL.same {u U : State} (e : u.vm = U.vm) (h : NL u) : NL U := ⟨va_Nw.same rfl e h.1, va_Nw.same rfl e h.2.1, va_Nw.same rfl e h.2.2.1, va_Nw.same rfl e h.2.2.2.1, va_Nw.same rfl e h.2.2.2.2.1, va_Nw.same rfl e h.2.2.2.2.2⟩
/-- a static row of eleven ints that nobody writes -/
def ZA (n : String) (f : Nat → Int32) (A : Nat → Prop) (U : State) (H : Heap) : Prop := ∃ a : Nat, va_Z RX3 n "[I" (.ref a) A U H ∧ va_X a 11 f U H ∧ a < H.size ∧ ¬ A a
def ZZ (A : Nat → Prop) (U : State) (H : Heap) : Prop := ZA "LEAST" fLEAST A U H ∧ ZA "MOST" fMOST A U H ∧ ZA "AT_FIRST" fFIRST A U H
theorem ZA.moved {n : String} {f : Nat → Int32} {A : Nat → Prop} {u U : State} {H : Heap} (hvm : u.vm.Alike U.vm) (h : ZA n f A u H) : ZA n f A U H := by
  obtain ⟨a, h1, h2, h3, h4⟩ := h
  exact ⟨a, h1.moved hvm, h2.moved hvm, h3, h4⟩
theorem ZA.kept {n : String} {f : Nat → Int32} {A : Nat → Prop} {U : State} {H H1 : Heap} (h : ZA n f A U H) (hz : H.size ≤ H1.size) (hq : ∀ a : Nat, a < H.size → ¬ A a → H1[a]? = H[a]?) : ZA n f A U H1 := by
  obtain ⟨a, h1, h2, h3, h4⟩ := h
  exact ⟨a, h1.kept hq, h2.kept (hq a h3 h4), Nat.lt_of_lt_of_le h3 hz, h4⟩
theorem ZA.narrow {n : String} {f : Nat → Int32} {A B : Nat → Prop} {U : State} {H : Heap} (h : ZA n f A U H) (hAB : ∀ q, B q → A q) : ZA n f B U H := by
  obtain ⟨a, h1, h2, h3, h4⟩ := h
  exact ⟨a, h1.narrow hAB, h2, h3, fun z => h4 (hAB a z)⟩
theorem ZZ.moved {A : Nat → Prop} {u U : State} {H : Heap} (hvm : u.vm.Alike U.vm) (h : ZZ A u H) : ZZ A U H := ⟨h.1.moved hvm, h.2.1.moved hvm, h.2.2.moved hvm⟩
theorem ZZ.kept {A : Nat → Prop} {U : State} {H H1 : Heap} (h : ZZ A U H) (hz : H.size ≤ H1.size) (hq : ∀ a : Nat, a < H.size → ¬ A a → H1[a]? = H[a]?) : ZZ A U H1 := ⟨h.1.kept hz hq, h.2.1.kept hz hq, h.2.2.kept hz hq⟩
theorem ZZ.narrow {A B : Nat → Prop} {U : State} {H : Heap} (h : ZZ A U H) (hAB : ∀ q, B q → A q) : ZZ B U H := ⟨h.1.narrow hAB, h.2.1.narrow hAB, h.2.2.narrow hAB⟩
/-- a method's start: its world, the tables, the nest links, the static rows -/
def PRE (D : va_G) (cI : ClassId) (W0 : va_W) (sz : Nat) (U : State) : Prop := U.heap.size = sz ∧ va_P D vwCl W0 U.heap ∧ va_K D vwCl [(cI, .int)] U ∧ va_D (fun _ => True) W0 ∧ NL U ∧ ZZ (va_A W0 sz) U U.heap
theorem PRE.blind {As : List Value} {D : va_G} {cI : ClassId} {W0 : va_W} {sz : Nat} : FrameBlind (va_Pc As (PRE D cI W0 sz)) := fun a U g mk q => by
  obtain ⟨q0, q1, qP, qK, qD, qN, qZ⟩ := q
  exact ⟨q0, q1, qP, va_K.moved (u := U) (U := U.calling g mk a) (Vm.Alike.refl U.vm) qK, qD, NL.same (u := U) (U := U.calling g mk a) rfl qN, ZZ.moved (u := U) (U := U.calling g mk a) (Vm.Alike.refl U.vm) qZ⟩
abbrev RM (fr lo : Nat) : Room := { frames := fr, cells := 0, slots := 0, locals := lo }
abbrev wsA (y : MethodName) (cc : ByteArray) (n : Nat) (ret : Option FieldType) : List Cond := .code y cc n ret :: wsG
/-- contracts of methods that make nothing: an int (or boolean), nothing, a reference comes back -/
def MI (l : Launch) (D : va_G) (cI : ClassId) (y : MethodName) (cc : ByteArray) (n : Nat) (ret : Option FieldType) (fr lo : Nat) (As : List Value) (W0 : va_W) (r : Int32) (W1 : va_W) : Prop :=
  ∀ sz : Nat, Met l y (wsA y cc n ret) (RM fr lo) (va_Pc As (PRE D cI W0 sz)) (va_Qi (fun r' (_ : Unit) => r' = r) (fun _ t => va_P D vwCl W1 t.heap) (va_A W0 sz)) 0 0 (va_A W0 sz)
def MV (l : Launch) (D : va_G) (cI : ClassId) (y : MethodName) (cc : ByteArray) (n : Nat) (fr lo : Nat) (As : List Value) (W0 W1 : va_W) : Prop :=
  ∀ sz : Nat, Met l y (wsA y cc n none) (RM fr lo) (va_Pc As (PRE D cI W0 sz)) (va_Qv (fun _ : Unit => True) (fun _ t => va_P D vwCl W1 t.heap) (va_A W0 sz)) 0 0 (va_A W0 sz)
def MR (l : Launch) (D : va_G) (cI : ClassId) (y : MethodName) (cc : ByteArray) (n : Nat) (ret : Option FieldType) (fr lo : Nat) (As : List Value) (W0 : va_W) (r : Nat) (W1 : va_W) : Prop :=
  ∀ sz : Nat, Met l y (wsA y cc n ret) (RM fr lo) (va_Pc As (PRE D cI W0 sz)) (va_Qr (fun _ : Unit => True) (fun _ a t => a = r ∧ va_P D vwCl W1 t.heap) (va_A W0 sz)) 0 0 (va_A W0 sz)
abbrev Ctx (p : Program) (s : State) (m : MethodId) (args : Array Value) (c : Code) (cc : ByteArray) (nL : Nat) (own : String) (D : va_G) (cI : ClassId) (A : Nat → Prop) : Prop :=
  CallFix p m c cc nL s args wsG own ∧ va_K D vwCl [(cI, .int)] s ∧ NL s ∧ ZZ A s s.heap ∧ ∀ q : Nat, s.heap.size ≤ q → A q
theorem nb {r : Int32} (h : r = 0 ∨ r = 1) : narrow .boolean (.int r) = .int r := by
  rcases h with rfl | rfl <;> rfl
theorem MI.mk {l : Launch} {D : va_G} {cI : ClassId} {y : MethodName} {cc : ByteArray} {n : Nat} {ty : FieldType} {fr lo : Nat} {As : List Value} {W0 : va_W} {r : Int32} {W1 : va_W} {own : String} (ho : y.cls = own) (hy : plainName y.cls = true) (hn : narrow ty (.int r) = .int r) (hA : (lg_sl As).length ≤ n)
    (body : ∀ (p : Program) (e : Env) (s : State) (m : MethodId) (args : Array Value) (below : List Frame) (meth : Method) (c : Code) (A : Nat → Prop) (Q : State → Prop), Ctx p s m args c cc n own D cI A → va_D A W0 →
      (∀ (x : Int32) (H : Heap) (locs : List Loc) (pc : Nat) (ls : Array Slot), x = r → va_P D vwCl W1 H → va_S A s.heap H locs → decode cc pc = .ok (.ireturn, 1) → W p l e (RM fr lo) s m args below meth c H locs 0 0 Q (F0 m pc ls [.int x])) →
      ∀ (H : Heap) (locs : List Loc) (ls : Array Slot), va_P D vwCl W0 H → va_S A s.heap H locs → lv_has ls n (lv_args 0 As) → W p l e (RM fr lo) s m args below meth c H locs 0 0 Q (F0 m 0 ls [])) : MI l D cI y cc n (some ty) fr lo As W0 r W1 := by
  intro sz
  refine Met.ofW (cc := cc) (maxL := n) (ret := some ty) hy rfl ?_
  intro p e s m args below meth c s₁ B hml hv
  obtain ⟨rfl, hsz, hP, hK, hD0, hN, hZ⟩ := hv
  have hts := atoms_spec (ws := wsA y cc n (some ty)) B.pre
  have hown : s.vm.findClass y.cls = some m.cls := findClass_of_methodNamed B.named
  subst hsz
  have hD := hD0.self (sz := s.heap.size)
  have hl := lv_entry As (n := n) hA
  rw [lg_entry_eq]
  exact body p e s m As.toArray below meth c (va_A W0 s.heap.size) _ ⟨⟨B.exec, B.bytes, hml, ho ▸ hown, fun w h => hts w (List.mem_cons_of_mem _ h)⟩, hK, hN, hZ, fun q h => Or.inr h⟩ hD (fun x H locs pc ls hx hP1 hS hd => by
    subst hx
    exact W.zret B.exec B.bytes B.returns hn (fun t ht hW => ⟨⟨_, (), rfl, rfl, by show va_P D vwCl W1 t.heap; rw [ht]; exact hP1⟩, hS.F ht⟩) hS.2.2 hd B.notSynchronized) _ _ _ hP va_S.rf hl
theorem MV.mk {l : Launch} {D : va_G} {cI : ClassId} {y : MethodName} {cc : ByteArray} {n : Nat} {fr lo : Nat} {As : List Value} {W0 W1 : va_W} {own : String} (ho : y.cls = own) (hy : plainName y.cls = true) (hA : (lg_sl As).length ≤ n)
    (body : ∀ (p : Program) (e : Env) (s : State) (m : MethodId) (args : Array Value) (below : List Frame) (meth : Method) (c : Code) (A : Nat → Prop) (Q : State → Prop), Ctx p s m args c cc n own D cI A → va_D A W0 →
      (∀ (H : Heap) (locs : List Loc) (pc : Nat) (ls : Array Slot), va_P D vwCl W1 H → va_S A s.heap H locs → decode cc pc = .ok (.return_, 1) → W p l e (RM fr lo) s m args below meth c H locs 0 0 Q (F0 m pc ls [])) →
      ∀ (H : Heap) (locs : List Loc) (ls : Array Slot), va_P D vwCl W0 H → va_S A s.heap H locs → lv_has ls n (lv_args 0 As) → W p l e (RM fr lo) s m args below meth c H locs 0 0 Q (F0 m 0 ls [])) : MV l D cI y cc n fr lo As W0 W1 := by
  intro sz
  refine Met.ofW (cc := cc) (maxL := n) (ret := none) hy rfl ?_
  intro p e s m args below meth c s₁ B hml hv
  obtain ⟨rfl, hsz, hP, hK, hD0, hN, hZ⟩ := hv
  have hts := atoms_spec (ws := wsA y cc n none) B.pre
  have hown : s.vm.findClass y.cls = some m.cls := findClass_of_methodNamed B.named
  subst hsz
  have hD := hD0.self (sz := s.heap.size)
  have hl := lv_entry As (n := n) hA
  rw [lg_entry_eq]
  exact body p e s m As.toArray below meth c (va_A W0 s.heap.size) _ ⟨⟨B.exec, B.bytes, hml, ho ▸ hown, fun w h => hts w (List.mem_cons_of_mem _ h)⟩, hK, hN, hZ, fun q h => Or.inr h⟩ hD (fun H locs pc ls hP1 hS hd => by
    exact W.vret B.exec B.bytes B.returns (fun t ht hW => ⟨⟨(), rfl, trivial, by show va_P D vwCl W1 t.heap; rw [ht]; exact hP1⟩, hS.F ht⟩) hS.2.2 hd B.notSynchronized) _ _ _ hP va_S.rf hl
theorem MR.mk {l : Launch} {D : va_G} {cI : ClassId} {y : MethodName} {cc : ByteArray} {n : Nat} {ty : String} {fr lo : Nat} {As : List Value} {W0 : va_W} {r : Nat} {W1 : va_W} {own : String} (ho : y.cls = own) (hy : plainName y.cls = true) (hA : (lg_sl As).length ≤ n)
    (body : ∀ (p : Program) (e : Env) (s : State) (m : MethodId) (args : Array Value) (below : List Frame) (meth : Method) (c : Code) (A : Nat → Prop) (Q : State → Prop), Ctx p s m args c cc n own D cI A → va_D A W0 →
      (∀ (x : Nat) (H : Heap) (locs : List Loc) (pc : Nat) (ls : Array Slot), x = r → va_P D vwCl W1 H → va_S A s.heap H locs → decode cc pc = .ok (.areturn, 1) → W p l e (RM fr lo) s m args below meth c H locs 0 0 Q (F0 m pc ls [.ref x])) →
      ∀ (H : Heap) (locs : List Loc) (ls : Array Slot), va_P D vwCl W0 H → va_S A s.heap H locs → lv_has ls n (lv_args 0 As) → W p l e (RM fr lo) s m args below meth c H locs 0 0 Q (F0 m 0 ls [])) : MR l D cI y cc n (some (.object ty)) fr lo As W0 r W1 := by
  intro sz
  refine Met.ofW (cc := cc) (maxL := n) (ret := some (.object ty)) hy rfl ?_
  intro p e s m args below meth c s₁ B hml hv
  obtain ⟨rfl, hsz, hP, hK, hD0, hN, hZ⟩ := hv
  have hts := atoms_spec (ws := wsA y cc n (some (.object ty))) B.pre
  have hown : s.vm.findClass y.cls = some m.cls := findClass_of_methodNamed B.named
  subst hsz
  have hD := hD0.self (sz := s.heap.size)
  have hl := lv_entry As (n := n) hA
  rw [lg_entry_eq]
  exact body p e s m As.toArray below meth c (va_A W0 s.heap.size) _ ⟨⟨B.exec, B.bytes, hml, ho ▸ hown, fun w h => hts w (List.mem_cons_of_mem _ h)⟩, hK, hN, hZ, fun q h => Or.inr h⟩ hD (fun x H locs pc ls hx hP1 hS hd => by
    subst hx
    exact W.aret B.exec B.bytes B.returns (Or.inl ⟨_, rfl⟩) (Or.inr ⟨_, rfl⟩) (fun t ht hW => ⟨⟨(), _, rfl, trivial, rfl, by rw [ht]; exact hP1⟩, hS.F ht⟩) hS.2.2 hd B.notSynchronized) _ _ _ hP va_S.rf hl
/-! the frame rule with places: what came back is put where it was taken -/
def putW : va_W → List Nat → va_W → va_W
  | ws, i :: is, q :: qs => putW (ws.set i q) is qs
  | ws, _, _ => ws
theorem putW_get : ∀ (is : List Nat) (qs ws : va_W) (k : Nat) (x : Nat × va_E), is.length = qs.length → (putW ws is qs)[k]? = some x → (∃ j : Nat, is[j]? = some k ∧ qs[j]? = some x) ∨ (ws[k]? = some x ∧ k ∉ is)
  | [], qs, ws, k, x, _, h => Or.inr ⟨by simpa [putW] using h, by simp⟩
  | i :: is, [], ws, k, x, hl, h => by simp at hl
  | i :: is, q :: qs, ws, k, x, hl, h => by
    rcases putW_get is qs (ws.set i q) k x (by simpa using hl) h with ⟨j, h1, h2⟩ | ⟨h1, h2⟩
    · exact Or.inl ⟨j + 1, by simpa using h1, by simpa using h2⟩
    · by_cases hki : k = i
      · subst hki
        have hlt : k < (ws.set k q).length := (List.getElem?_eq_some_iff.mp h1).1
        rw [List.getElem?_set_self (by simpa using hlt)] at h1
        cases h1
        exact Or.inl ⟨0, rfl, rfl⟩
      · rw [List.getElem?_set_ne (Ne.symm hki)] at h1
        exact Or.inr ⟨h1, by simp [hki, h2]⟩
theorem putW_fst : ∀ (is : List Nat) (qs ws : va_W), is.map (fun i => (ws.map Prod.fst)[i]?) = qs.map (fun q => some q.1) → (putW ws is qs).map Prod.fst = ws.map Prod.fst
  | [], qs, ws, _ => by simp [putW]
  | i :: is, [], ws, h => by simp at h
  | i :: is, q :: qs, ws, h => by
    have h1 : (ws.map Prod.fst)[i]? = some q.1 := (List.cons.inj h).1
    have h2 := (List.cons.inj h).2
    have e : (ws.set i q).map Prod.fst = ws.map Prod.fst := by
      apply List.ext_getElem?
      intro k
      rw [List.getElem?_map, List.getElem?_map]
      by_cases hk : i = k
      · subst hk
        rw [List.getElem?_map] at h1
        cases hw : ws[i]? with
        | none => rw [hw] at h1; cases h1
        | some z =>
          rw [hw] at h1
          have hlt := (List.getElem?_eq_some_iff.mp hw).1
          rw [List.getElem?_set_self hlt]
          exact h1.symm
      · rw [List.getElem?_set_ne hk]
    have := putW_fst is qs (ws.set i q) (by rw [e]; exact h2)
    rw [putW, this, e]
theorem va_D_fst {A : Nat → Prop} {ws ws' : va_W} (e : ws'.map Prod.fst = ws.map Prod.fst) (hD : va_D A ws) : va_D A ws' := by
  have key : ∀ (k : Nat) (q : Nat × va_E), ws'[k]? = some q → ∃ q0, ws[k]? = some q0 ∧ q0.1 = q.1 := by
    intro k q hk
    have h1 : (ws'.map Prod.fst)[k]? = some q.1 := by rw [List.getElem?_map, hk]; rfl
    rw [e, List.getElem?_map] at h1
    cases hw : ws[k]? with
    | none => rw [hw] at h1; cases h1
    | some z => rw [hw] at h1; exact ⟨z, rfl, Option.some.inj h1⟩
  refine ⟨fun i j x y hi hj hxy => ?_, fun k q hk => ?_⟩
  · obtain ⟨x0, a1, a2⟩ := key i x hi
    obtain ⟨y0, b1, b2⟩ := key j y hj
    exact hD.1 i j x0 y0 a1 b1 (a2.trans (hxy.trans b2.symm))
  · obtain ⟨q0, a1, a2⟩ := key k q hk
    rw [← a2]; exact hD.2 k q0 a1
theorem cut_at {is : List Nat} {ws w : va_W} (hs : is.map (fun i => ws[i]?) = w.map some) (k : Nat) (q : Nat × va_E) (hq : w[k]? = some q) : ∃ i, is[k]? = some i ∧ ws[i]? = some q := by
  have h1 : (is.map (fun i => ws[i]?))[k]? = some (some q) := by rw [hs, List.getElem?_map, hq]; rfl
  rw [List.getElem?_map] at h1
  cases hi : is[k]? with
  | none => rw [hi] at h1; cases h1
  | some i => rw [hi] at h1; exact ⟨i, rfl, Option.some.inj h1⟩
theorem cut_P {D : va_G} {ws w : va_W} {H : Heap} (hP : va_P D vwCl ws H) {is : List Nat} (hs : is.map (fun i => ws[i]?) = w.map some) : va_P D vwCl w H := fun k q hk => by
  obtain ⟨i, -, h2⟩ := cut_at hs k q hk
  exact hP i q h2
theorem put_back {A : Nat → Prop} {D : va_G} {ws wc w1 : va_W} {H H1 : Heap} (hP : va_P D vwCl ws H) (hD : va_D A ws) (is : List Nat) (hC : is.map (fun i => ws[i]?) = wc.map some) (ha : w1.map Prod.fst = wc.map Prod.fst)
    (hk : ∀ q : Nat, q < H.size → ¬ va_A wc H.size q → H1[q]? = H[q]?) (hP1 : va_P D vwCl w1 H1) : va_P D vwCl (putW ws is w1) H1 ∧ va_D A (putW ws is w1) := by
  have hlen : is.length = w1.length := by
    have h1 := congrArg List.length hC
    have h2 := congrArg List.length ha
    simp only [List.length_map] at h1 h2
    omega
  refine ⟨fun k q hq => ?_, va_D_fst (putW_fst is w1 ws ?_) hD⟩
  · rcases putW_get is w1 ws k q hlen hq with ⟨j, h1, h2⟩ | ⟨h1, h2⟩
    · exact hP1 j q h2
    · have hl := (hP k q h1).lt
      refine (hP k q h1).kept (hk q.1 hl fun h => ?_)
      rcases h with ⟨k2, e, h⟩ | h
      · obtain ⟨j, h3, h4⟩ := cut_at hC k2 (q.1, e) h
        have hij := hD.1 k j q (q.1, e) h1 h4 rfl
        subst hij
        exact h2 (List.mem_of_getElem? h3)
      · omega
  · have e : is.map (fun i => (ws.map Prod.fst)[i]?) = (is.map (fun i => ws[i]?)).map (Option.map Prod.fst) := by
      rw [List.map_map]
      apply List.map_congr_left
      intro i _
      simp [List.getElem?_map]
    rw [e, hC, List.map_map]
    have e2 : wc.map (Option.map Prod.fst ∘ some) = (wc.map Prod.fst).map some := by
      rw [List.map_map]; rfl
    rw [e2, ← ha, List.map_map]; rfl
theorem gd_all : GoodIn wsG wsG := wsG_good
theorem gd {y : MethodName} {yc : ByteArray} {yn : Nat} {yret : Option FieldType} (h : Cond.code y yc yn yret ∈ wsG) : GoodIn wsG (wsA y yc yn yret) := fun w hw => (List.mem_cons.mp hw).elim (fun e => e ▸ gd_all _ h) (gd_all w)
/-- what is known of a callee -/
abbrev CK (y : MethodName) (yc : ByteArray) (yn : Nat) (yret : Option FieldType) (n : Nat) : Prop := Cond.code y yc yn yret ∈ wsG ∧ Cond.initialized y.cls ∈ wsG ∧ (y.cls ≠ "java/lang/invoke/MethodHandle" ∧ y.cls ≠ "java/lang/invoke/VarHandle" ∧ (parseMethodDescriptor y.desc).map (fun d => d.parameters.length) = some n)
section KB
variable {p : Program} {l : Launch} {e : Env} {R : Room} {s : State} {m : MethodId} {args : Array Value} {below : List Frame} {meth : Method} {c : Code} {H : Heap} {locs : List Loc} {cells slots : Nat} {Q : State → Prop}
variable {cc : ByteArray} {nL : Nat} {own : String} {D : va_G} {cI : ClassId} {A : Nat → Prop} {ws : va_W} {pc : Nat} {ls : Array Slot} {rest st : List Value} {lv : List (Nat × Value)}
variable {y : MethodName} {yc : ByteArray} {yn : Nat} {yret : Option FieldType} {fr lo : Nat} {As : List Value} {Wc : va_W} {Qc : Array Value → State → Outcome → State → Prop} {free : Addr → Prop} {index : Nat}
theorem pre_of (C : Ctx p s m args c cc nL own D cI A) (hP : va_P D vwCl ws H) (hD : va_D A ws) (hS : va_S A s.heap H locs) (is : List Nat) (hn : va_nd is = true) (hC : is.map (fun i => ws[i]?) = Wc.map some) (U : State) (hU : U.heap = H) (hW : s.WarmedH U.vm) : PRE D cI Wc H.size U := by
  have hF := va_free hD hS C.2.2.2.2 is hC
  refine ⟨by rw [hU], by rw [hU]; exact cut_P hP hC, va_K.moved hW.alike C.2.1, (hD.sub is hn hC).weaken (fun _ _ _ _ => trivial), NL.warm hW C.2.2.1, ?_⟩
  rw [hU]
  exact ((C.2.2.2.1.kept hS.1 hS.2.1).narrow hF).moved hW.alike
theorem rn_S (C : Ctx p s m args c cc nL own D cI A) (hM : Met l y (wsA y yc yn yret) (RM fr lo) (va_Pc As (PRE D cI Wc H.size)) Qc 0 0 free) (K : CK y yc yn yret As.length) (hst : Cond.static y ∈ wsG) (hlk : Cond.methodLink own index y ∈ wsG) (hR : fr + 1 ≤ R.frames ∧ 8 + (yn + 11) + lo ≤ R.locals) (hcs : cells ≤ R.cells ∧ slots ≤ R.slots)
    (hP : va_P D vwCl ws H) (hD : va_D A ws) (hS : va_S A s.heap H locs) (is : List Nat) (hn : va_nd is = true) (hC : is.map (fun i => ws[i]?) = Wc.map some) (hl : lv_has ls nL lv) (hstk : st = As.reverse ++ rest) (hW : (rest.map fun v => v.category).sum ≤ 8) (hdg : decode cc pc = .ok (.invokestatic index, 3)) :
    va_Run p l e R s m args below meth c H locs cells slots 0 0 (F0 m pc ls st) rest (Qc As.toArray) free :=
  va_runS C.1 hM ⟨callB_of As.length C.1.2.2.2.2 (gd K.1) rfl rfl rfl (C.1.2.2.2.2 _ K.2.1) (C.1.2.2.2.2 _ hlk) K.2.2 hR, C.1.2.2.2.2 _ hst⟩ ⟨PRE.blind, fun U hU hW => ⟨rfl, pre_of C hP hD hS is hn hC U hU hW⟩⟩ rfl rfl hl.1 hstk (lv_room hW) hdg hcs
theorem rn_N {host : String} (C : Ctx p s m args c cc nL own D cI A) (hM : Met l y (wsA y yc yn yret) (RM fr lo) (va_Pc As (PRE D cI Wc H.size)) Qc 0 0 free) (K : CK y yc yn yret As.length) (hst : Cond.static y ∈ wsG) (hlk : va_Nw (.methodLinkNest own index y host) s) (hR : fr + 1 ≤ R.frames ∧ 8 + (yn + 11) + lo ≤ R.locals) (hcs : cells ≤ R.cells ∧ slots ≤ R.slots)
    (hP : va_P D vwCl ws H) (hD : va_D A ws) (hS : va_S A s.heap H locs) (is : List Nat) (hn : va_nd is = true) (hC : is.map (fun i => ws[i]?) = Wc.map some) (hl : lv_has ls nL lv) (hstk : st = As.reverse ++ rest) (hW : (rest.map fun v => v.category).sum ≤ 8) (hdg : decode cc pc = .ok (.invokestatic index, 3)) :
    va_Run p l e R s m args below meth c H locs cells slots 0 0 (F0 m pc ls st) rest (Qc As.toArray) free :=
  va_runSN C.1 hM ⟨va_cnB As.length C.1.2.2.2.2 (gd K.1) rfl rfl rfl hlk (C.1.2.2.2.2 _ K.2.1) K.2.2 hR, C.1.2.2.2.2 _ hst, trivial⟩ ⟨PRE.blind, fun U hU hW => ⟨rfl, pre_of C hP hD hS is hn hC U hU hW⟩⟩ rfl rfl hl.1 hstk (lv_room hW) hdg hcs
theorem rn_V {b q0 ci : Nat} {fs : List Value} {CC : String} {T : u_T} {N : Nat} (C : Ctx p s m args c cc nL own D cI A) (hM : Met l y (wsA y yc yn yret) (RM fr lo) (va_Pc (.ref b :: As) (PRE D cI Wc H.size)) Qc 0 0 free) (K : CK y yc yn yret As.length) (hin : Cond.instanceMethod y ∈ wsG) (hse : Cond.selects CC y y ∈ wsG) (hlk : Cond.methodLink own index y ∈ wsG) (hR : fr + 1 ≤ R.frames ∧ 8 + (yn + 11) + lo ≤ R.locals) (hcs : cells ≤ R.cells ∧ slots ≤ R.slots)
    (hc : vwCl[ci]? = some (CC, T, N)) (he : ws[q0]? = some (b, .inr (ci, fs))) (hP : va_P D vwCl ws H) (hD : va_D A ws) (hS : va_S A s.heap H locs) (is : List Nat) (hn : va_nd is = true) (hC : is.map (fun i => ws[i]?) = Wc.map some) (hl : lv_has ls nL lv) (hstk : st = As.reverse ++ .ref b :: rest) (hW : (rest.map fun v => v.category).sum ≤ 8) (hdg : decode cc pc = .ok (.invokevirtual index, 3)) :
    va_Run p l e R s m args below meth c H locs cells slots 0 0 (F0 m pc ls st) rest (Qc (Value.ref b :: As).toArray) free :=
  va_runV C.1 hM ⟨callB_of As.length C.1.2.2.2.2 (gd K.1) rfl rfl rfl (C.1.2.2.2.2 _ K.2.1) (C.1.2.2.2.2 _ hlk) K.2.2 hR, C.1.2.2.2.2 _ hin, C.1.2.2.2.2 _ hse⟩ ⟨PRE.blind, va_recv C.2.1 hP hc he, fun U hU hW => ⟨rfl, pre_of C hP hD hS is hn hC U hU hW⟩⟩ rfl rfl hl.1 hstk (lv_room hW) hdg hcs
variable {r : Int32} {W1 ws' : va_W} {a : Array Value}
theorem go_i (C : Ctx p s m args c cc nL own D cI A) (hr : va_Run p l e R s m args below meth c H locs cells slots 0 0 (F0 m pc ls st) rest (va_Qi (fun r' (_ : Unit) => r' = r) (fun _ t => va_P D vwCl W1 t.heap) (va_A Wc H.size) a) (va_A Wc H.size))
    (hP : va_P D vwCl ws H) (hD : va_D A ws) (hS : va_S A s.heap H locs) (is : List Nat) (hC : is.map (fun i => ws[i]?) = Wc.map some) (ha : W1.map Prod.fst = Wc.map Prod.fst) (hw : putW ws is W1 = ws')
    (kk : ∀ (H1 : Heap) (locs1 : List Loc), va_P D vwCl ws' H1 → va_D A ws' → va_S A s.heap H1 locs1 → W p l e R s m args below meth c H1 locs1 cells slots Q (F0 m (pc + 3) ls (.int r :: rest))) : W p l e R s m args below meth c H locs cells slots Q (F0 m pc ls st) := by
  have hF := va_free hD hS C.2.2.2.2 is hC
  refine va_calli hr hS (fun q _ h => hF q h) hF (fun r' u t H1 locs1 ht hvm hw1 hB hz hk hS1 => ?_)
  subst hw1
  rw [ht] at hB
  obtain ⟨hP1, hD1⟩ := put_back hP hD is hC ha hk hB
  rw [hw] at hP1 hD1
  exact kk H1 locs1 hP1 hD1 hS1
theorem go_v (C : Ctx p s m args c cc nL own D cI A) (hr : va_Run p l e R s m args below meth c H locs cells slots 0 0 (F0 m pc ls st) rest (va_Qv (fun _ : Unit => True) (fun _ t => va_P D vwCl W1 t.heap) (va_A Wc H.size) a) (va_A Wc H.size))
    (hP : va_P D vwCl ws H) (hD : va_D A ws) (hS : va_S A s.heap H locs) (is : List Nat) (hC : is.map (fun i => ws[i]?) = Wc.map some) (ha : W1.map Prod.fst = Wc.map Prod.fst) (hw : putW ws is W1 = ws')
    (kk : ∀ (H1 : Heap) (locs1 : List Loc), va_P D vwCl ws' H1 → va_D A ws' → va_S A s.heap H1 locs1 → W p l e R s m args below meth c H1 locs1 cells slots Q (F0 m (pc + 3) ls rest)) : W p l e R s m args below meth c H locs cells slots Q (F0 m pc ls st) := by
  have hF := va_free hD hS C.2.2.2.2 is hC
  refine va_callv hr hS (fun q _ h => hF q h) hF (fun u t H1 locs1 ht hvm hw1 hB hz hk hS1 => ?_)
  rw [ht] at hB
  obtain ⟨hP1, hD1⟩ := put_back hP hD is hC ha hk hB
  rw [hw] at hP1 hD1
  exact kk H1 locs1 hP1 hD1 hS1
theorem go_r {rr : Nat} (C : Ctx p s m args c cc nL own D cI A) (hr : va_Run p l e R s m args below meth c H locs cells slots 0 0 (F0 m pc ls st) rest (va_Qr (fun _ : Unit => True) (fun _ a t => a = rr ∧ va_P D vwCl W1 t.heap) (va_A Wc H.size) a) (va_A Wc H.size))
    (hP : va_P D vwCl ws H) (hD : va_D A ws) (hS : va_S A s.heap H locs) (is : List Nat) (hC : is.map (fun i => ws[i]?) = Wc.map some) (ha : W1.map Prod.fst = Wc.map Prod.fst) (hw : putW ws is W1 = ws')
    (kk : ∀ (H1 : Heap) (locs1 : List Loc), va_P D vwCl ws' H1 → va_D A ws' → va_S A s.heap H1 locs1 → W p l e R s m args below meth c H1 locs1 cells slots Q (F0 m (pc + 3) ls (.ref rr :: rest))) : W p l e R s m args below meth c H locs cells slots Q (F0 m pc ls st) := by
  have hF := va_free hD hS C.2.2.2.2 is hC
  refine va_callr hr hS (fun q _ h => hF q h) hF (fun u ra t H1 locs1 ht hvm hw1 hB hz hk hS1 => ?_)
  obtain ⟨rfl, hB⟩ := hB
  rw [ht] at hB
  obtain ⟨hP1, hD1⟩ := put_back hP hD is hC ha hk hB
  rw [hw] at hP1 hD1
  exact kk H1 locs1 hP1 hD1 hS1
/-! fields, rows, Math -/
theorem kget {CC : String} {T : u_T} {N ci b : Nat} {fs : List Value} {v : Value} (C : Ctx p s m args c cc nL own D cI A) (hP : va_P D vwCl ws H) (hin : ∀ w ∈ u_ws CC T N, w ∈ wsG) (hc : vwCl[ci]? = some (CC, T, N)) (k : Nat) (hk : k < N) (hlk : Cond.fieldLink own index (T k).1 (T k).2.1 (T k).2.2.1 ∈ wsG) (q0 : Nat) (he : ws[q0]? = some (b, .inr (ci, fs))) (hv : fs[k]? = some v) (hdg : decode cc pc = .ok (.getfield index, 3))
    (kk : W p l e R s m args below meth c H locs cells slots Q (F0 m (pc + 3) ls (v :: rest))) : W p l e R s m args below meth c H locs cells slots Q (F0 m pc ls (.ref b :: rest)) :=
  va_get C.1.1 C.1.2.1 C.1.2.2.2.2 hin C.1.2.2.2.1 C.2.1 hP q0 he hc k hk (C.1.2.2.2.2 _ hlk) (fun _ h => h) hv hdg kk
theorem kput {CC : String} {T : u_T} {N ci b : Nat} {fs : List Value} {v : Value} {ty : FieldType} {ty0 : Nat → FieldType} (C : Ctx p s m args c cc nL own D cI A) (hP : va_P D vwCl ws H) (hD : va_D A ws) (hS : va_S A s.heap H locs) (hin : ∀ w ∈ u_ws CC T N, w ∈ wsG) (hty : ∀ k, k < N → parseFieldDescriptor (T k).2.2.1 = some (ty0 k)) (hnm : ∀ a, a < N → ∀ b, b < N → a ≠ b → (T a).2.1 ≠ (T b).2.1) (hc : vwCl[ci]? = some (CC, T, N)) (k : Nat) (hk : k < N) (hlk : Cond.fieldLink own index (T k).1 (T k).2.1 (T k).2.2.1 ∈ wsG) (hfin : (T k).2.2.2 = false) (hd : parseFieldDescriptor (T k).2.2.1 = some ty) (hn : narrow ty v = v) (hfit : fits ty v = true) (q0 : Nat) (he : ws[q0]? = some (b, .inr (ci, fs))) (hl : k < fs.length) (hw : ws.set q0 (b, .inr (ci, fs.set k v)) = ws') (hdg : decode cc pc = .ok (.putfield index, 3))
    (kk : ∀ (H1 : Heap) (locs1 : List Loc), va_P D vwCl ws' H1 → va_D A ws' → va_S A s.heap H1 locs1 → W p l e R s m args below meth c H1 locs1 cells slots Q (F0 m (pc + 3) ls rest)) : W p l e R s m args below meth c H locs cells slots Q (F0 m pc ls (v :: .ref b :: rest)) := by
  subst hw
  exact va_put C.1.1 C.1.2.1 C.1.2.2.2.2 hin ty0 hty hnm C.1.2.2.2.1 C.2.1 hP hD hS q0 he hc k hk (C.1.2.2.2.2 _ hlk) (fun _ h => h) hfin hd hn hfit hl hdg kk
theorem kald {b n k : Nat} {f : Nat → Int32} {i : Int32} (C : Ctx p s m args c cc nL own D cI A) (hP : va_P D vwCl ws H) (q0 : Nat) (ha : ws[q0]? = some (b, .inl (cI, n, .inl f))) (hin : vp_in i n) (hk : Int32.toNatClampNeg i = k) (hdg : decode cc pc = .ok (.iaload, 1))
    (kk : W p l e R s m args below meth c H locs cells slots Q (F0 m (pc + 1) ls (.int (f k) :: rest))) : W p l e R s m args below meth c H locs cells slots Q (F0 m pc ls (.int i :: .ref b :: rest)) := by
  subst hk
  exact va_iald C.1.1 C.1.2.1 C.2.1 hP q0 0 ha rfl hin hdg kk
theorem kast {b n k : Nat} {f : Nat → Int32} {i x : Int32} (C : Ctx p s m args c cc nL own D cI A) (hP : va_P D vwCl ws H) (hD : va_D A ws) (hS : va_S A s.heap H locs) (q0 : Nat) (ha : ws[q0]? = some (b, .inl (cI, n, .inl f))) (hin : vp_in i n) (hk : Int32.toNatClampNeg i = k) (hw : ws.set q0 (b, .inl (cI, n, .inl (upd f k x))) = ws') (hdg : decode cc pc = .ok (.iastore, 1))
    (kk : ∀ (H1 : Heap) (locs1 : List Loc), va_P D vwCl ws' H1 → va_D A ws' → va_S A s.heap H1 locs1 → W p l e R s m args below meth c H1 locs1 cells slots Q (F0 m (pc + 1) ls rest)) : W p l e R s m args below meth c H locs cells slots Q (F0 m pc ls (.int x :: .int i :: .ref b :: rest)) := by
  subst hk
  subst hw
  exact va_iast C.1.1 C.1.2.1 C.2.1 hP hD hS q0 0 ha rfl hin hdg kk
theorem kmax {x z : Int32} (C : Ctx p s m args c cc nL own D cI A) (hl : lv_has ls nL lv) (hlk : Cond.methodLink own index Lib.Math.max.name ∈ wsG) (hst : Cond.static Lib.Math.max.name ∈ wsG) (hin : Cond.initialized "java/lang/Math" ∈ wsG) (hco : Cond.code Lib.Math.max.name Lib.Math.max.code 2 (some .int) ∈ wsG) (hR : 1 ≤ R.frames ∧ (rest.map fun v => v.category).sum + 13 ≤ R.locals) (hcs : cells ≤ R.cells ∧ slots ≤ R.slots) (hdg : decode cc pc = .ok (.invokestatic index, 3))
    (kk : W p l e R s m args below meth c H locs cells slots Q (F0 m (pc + 3) ls (.int (if x < z then z else x) :: rest))) : W p l e R s m args below meth c H locs cells slots Q (F0 m pc ls (.int z :: .int x :: rest)) :=
  va_mmax C.1.1 C.1.2.1 (C.1.2.2.1.trans hl.1.symm) C.1.2.2.2.1 (C.1.2.2.2.2 _ hlk) (C.1.2.2.2.2 _ hst) (C.1.2.2.2.2 _ hin) (C.1.2.2.2.2 _ hco) hR.1 hR.2 hcs.1 hcs.2 hdg kk
theorem kmin {x z : Int32} (C : Ctx p s m args c cc nL own D cI A) (hl : lv_has ls nL lv) (hlk : Cond.methodLink own index Lib.Math.min.name ∈ wsG) (hst : Cond.static Lib.Math.min.name ∈ wsG) (hin : Cond.initialized "java/lang/Math" ∈ wsG) (hco : Cond.code Lib.Math.min.name Lib.Math.min.code 2 (some .int) ∈ wsG) (hR : 1 ≤ R.frames ∧ (rest.map fun v => v.category).sum + 13 ≤ R.locals) (hcs : cells ≤ R.cells ∧ slots ≤ R.slots) (hdg : decode cc pc = .ok (.invokestatic index, 3))
    (kk : W p l e R s m args below meth c H locs cells slots Q (F0 m (pc + 3) ls (.int (if z < x then z else x) :: rest))) : W p l e R s m args below meth c H locs cells slots Q (F0 m pc ls (.int z :: .int x :: rest)) :=
  va_mmin C.1.1 C.1.2.1 (C.1.2.2.1.trans hl.1.symm) C.1.2.2.2.1 (C.1.2.2.2.2 _ hlk) (C.1.2.2.2.2 _ hst) (C.1.2.2.2.2 _ hin) (C.1.2.2.2.2 _ hco) hR.1 hR.2 hcs.1 hcs.2 hdg kk
theorem kldc2 {v : Int64} (C : Ctx p s m args c cc nL own D cI A) (hlk : Cond.constantLong own index v ∈ wsG) (hdg : decode cc pc = .ok (.ldc2_w index, 3))
    (kk : W p l e R s m args below meth c H locs cells slots Q (F0 m (pc + 3) ls (.long v :: rest))) : W p l e R s m args below meth c H locs cells slots Q (F0 m pc ls rest) :=
  lv_ldc2 C.1.1 C.1.2.1 C.1.2.2.2.1 (C.1.2.2.2.2 _ hlk) hdg kk
end KB
/-! bundles -/
def g8 (a b c d e f g h : Int32) : Nat → Int32 | 0 => a | 1 => b | 2 => c | 3 => d | 4 => e | 5 => f | 6 => g | _ => h
def l7 (c d e f g : Int32) : Nat → Int32 | 2 => c | 3 => d | 4 => e | 5 => f | _ => g
def x10 (a b c d e f : Int32) : Nat → Int32 | 4 => a | 5 => b | 6 => c | 7 => d | 8 => e | _ => f
abbrev gc (a : Nat) (G : Nat → Int32) : Nat × va_E := (a, .inr (0, [.int (G 0), .int (G 1), .int (G 2), .int (G 3), .int (G 4), .int (G 5), .int (G 6), .int (G 7)]))
abbrev hc (a a1 a2 a3 : Nat) : Nat × va_E := (a, .inr (1, [.ref a1, .ref a2, .ref a3]))
abbrev lc (a ag ai : Nat) (L : Nat → Int32) : Nat × va_E := (a, .inr (2, [.ref ag, .ref ai, .int (L 2), .int (L 3), .int (L 4), .int (L 5), .int (L 6)]))
abbrev rc (a av : Nat) : Nat × va_E := (a, .inr (3, [.ref av]))
abbrev xc (a ar al at_ ah : Nat) (X : Nat → Int32) : Nat × va_E := (a, .inr (4, [.ref ar, .ref al, .ref at_, .ref ah, .int (X 4), .int (X 5), .int (X 6), .int (X 7), .int (X 8), .int (X 9)]))
abbrev yc (a : Nat → Nat) (Y : Nat → Int32) : Nat × va_E := (a 0, .inr (5, [.int (Y 0), .int (Y 1), .ref (a 2), .int (Y 3), .int (Y 4), .int (Y 5), .ref (a 6), .ref (a 7), .ref (a 8), .ref (a 9), .ref (a 10), .ref (a 11), .ref (a 12), .ref (a 13), .ref (a 14), .ref (a 15), .ref (a 16), .ref (a 17), .ref (a 18), .int (Y 19), .ref (a 20)]))
abbrev ac (cI : ClassId) (a n : Nat) (f : Nat → Int32) : Nat × va_E := (a, .inl (cI, n, .inl f))
theorem ts_out {x : Int32} {hi : Int} (h : ∀ k : Int, 0 ≤ k → k ≤ hi → ¬ x = Int32.ofInt k) : x.toInt < 0 ∨ hi < x.toInt := by
  by_cases h0 : x.toInt < 0
  · exact Or.inl h0
  · by_cases h1 : hi < x.toInt
    · exact Or.inr h1
    · exact absurd (Int32.ofInt_toInt x).symm (h x.toInt (by omega) (by omega))
def y21 (a b c d e f : Int32) : Nat → Int32 | 0 => a | 1 => b | 3 => c | 4 => d | 5 => e | _ => f
end
section
def r_X4_within (v : Int32) (a : Int32) (b : Int32) : Int32 := (if v < a then 0 else (if b < v then 0 else 1))
theorem ck_X4_within : CK yX4_within cX4_within 3 (some .boolean) 3 := ⟨wd_1_157, wd_1_1, by decide, by decide, by decide +kernel⟩
theorem b_X4_within (v : Int32) (a : Int32) (b : Int32) : (r_X4_within v a b) = 0 ∨ (r_X4_within v a b) = 1 := by
  unfold r_X4_within
  repeat' split
  all_goals first | exact Or.inl rfl | exact Or.inr rfl | exact b_X4_within _ _ _
set_option maxHeartbeats 4000000 in
set_option maxRecDepth 100000 in
theorem c_X4_within (l : Launch) (D : va_G) (cI : ClassId) (v : Int32) (a : Int32) (b : Int32) : MI l D cI yX4_within cX4_within 3 (some .boolean) 0 0 [.int v, .int a, .int b] [] (r_X4_within v a b) [] := by
  have hn : narrow .boolean (.int (r_X4_within v a b)) = .int (r_X4_within v a b) := nb (b_X4_within v a b)
  generalize hr : (r_X4_within v a b) = r at hn ⊢
  refine MI.mk (own := RX4) rfl (by decide) hn (Nat.le_of_ble_eq_true rfl) ?_
  intro p e s m args below meth c A Q C hD hend H locs ls hP hS hl
  have hx := C.1.1
  have hb := C.1.2.1
  have hl : lv_has ls 3 [(0, .int v), (1, .int a), (2, .int b)] := hl
  refine lv_iload_n hx hb dX4_within_0 rfl (lv_at hl 0 rfl) ?_
  refine lv_iload_n hx hb dX4_within_1 rfl (lv_at hl 1 rfl) ?_
  refine lv_icmp_lt (tgt := 14) hx hb dX4_within_2 (by decide) (fun c1 => ?_) (fun c1 => ?_)
  · refine lv_iconst (v := 0) hx hb dX4_within_14 (by decide) ?_
    exact hend _ _ _ _ _ (by rw [← hr, r_X4_within, if_pos c1]) hP hS dX4_within_15
  · refine lv_iload_n hx hb dX4_within_5 rfl (lv_at hl 0 rfl) ?_
    refine lv_iload_n hx hb dX4_within_6 rfl (lv_at hl 2 rfl) ?_
    refine lv_icmp_gt (tgt := 14) hx hb dX4_within_7 (by decide) (fun c2 => ?_) (fun c2 => ?_)
    · refine lv_iconst (v := 0) hx hb dX4_within_14 (by decide) ?_
      exact hend _ _ _ _ _ (by rw [← hr, r_X4_within, if_neg c1, if_pos c2]) hP hS dX4_within_15
    · refine lv_iconst (v := 1) hx hb dX4_within_10 (by decide) ?_
      refine lv_goto (tgt := 15) hx hb dX4_within_11 (by decide) ?_
      exact hend _ _ _ _ _ (by rw [← hr, r_X4_within, if_neg c1, if_neg c2]) hP hS dX4_within_15
def r_X4_quotient (v : Int32) (a : Int32) : Int32 := (if a = 0 then 0 else (v / a))
theorem ck_X4_quotient : CK yX4_quotient cX4_quotient 2 (some .int) 2 := ⟨wd_1_210, wd_1_1, by decide, by decide, by decide +kernel⟩
set_option maxHeartbeats 4000000 in
set_option maxRecDepth 100000 in
theorem c_X4_quotient (l : Launch) (D : va_G) (cI : ClassId) (v : Int32) (a : Int32) : MI l D cI yX4_quotient cX4_quotient 2 (some .int) 0 0 [.int v, .int a] [] (r_X4_quotient v a) [] := by
  generalize hr : (r_X4_quotient v a) = r
  refine MI.mk (own := RX4) rfl (by decide) rfl (Nat.le_of_ble_eq_true rfl) ?_
  intro p e s m args below meth c A Q C hD hend H locs ls hP hS hl
  have hx := C.1.1
  have hb := C.1.2.1
  have hl : lv_has ls 2 [(0, .int v), (1, .int a)] := hl
  refine lv_iload_n hx hb dX4_quotient_0 rfl (lv_at hl 1 rfl) ?_
  refine lv_if_ne (tgt := 8) hx hb dX4_quotient_1 (by decide) (fun c1 => ?_) (fun c1 => ?_)
  · refine lv_iload_n hx hb dX4_quotient_8 rfl (lv_at hl 0 rfl) ?_
    refine lv_iload_n hx hb dX4_quotient_9 rfl (lv_at hl 1 rfl) ?_
    refine lv_idiv hx hb dX4_quotient_10 c1 ?_
    exact hend _ _ _ _ _ (by rw [← hr, r_X4_quotient, if_neg c1]) hP hS dX4_quotient_11
  · refine lv_iconst (v := 0) hx hb dX4_quotient_4 (by decide) ?_
    refine lv_goto (tgt := 11) hx hb dX4_quotient_5 (by decide) ?_
    exact hend _ _ _ _ _ (by rw [← hr, r_X4_quotient, if_pos c1]) hP hS dX4_quotient_11
def r_X4_vapourAt (t : Int32) : Int32 := (((((((((t - (-600)) / 10) + 2) * (((t - (-600)) / 10) + 2)) * (((t - (-600)) / 10) + 2)) / 20) * (10 - ((t - (-600)) - (t - (-600)) / 10 * 10))) + (((((((t - (-600)) / 10) + 3) * (((t - (-600)) / 10) + 3)) * (((t - (-600)) / 10) + 3)) / 20) * ((t - (-600)) - (t - (-600)) / 10 * 10))) / 10)
theorem ck_X4_vapourAt : CK yX4_vapourAt cX4_vapourAt 8 (some .int) 1 := ⟨wd_1_193, wd_1_1, by decide, by decide, by decide +kernel⟩
set_option maxHeartbeats 4000000 in
set_option maxRecDepth 100000 in
theorem c_X4_vapourAt (l : Launch) (D : va_G) (cI : ClassId) (t : Int32) : MI l D cI yX4_vapourAt cX4_vapourAt 8 (some .int) 0 0 [.int t] [] (r_X4_vapourAt t) [] := by
  generalize hr : (r_X4_vapourAt t) = r
  refine MI.mk (own := RX4) rfl (by decide) rfl (Nat.le_of_ble_eq_true rfl) ?_
  intro p e s m args below meth c A Q C hD hend H locs ls hP hS hl
  have hx := C.1.1
  have hb := C.1.2.1
  have hl : lv_has ls 8 [(0, .int t)] := hl
  refine lv_iload_n hx hb dX4_vapourAt_0 rfl (lv_at hl 0 rfl) ?_
  refine lv_sipush (v := (-600)) hx hb dX4_vapourAt_1 (by decide) ?_
  refine lv_isub hx hb dX4_vapourAt_4 ?_
  refine lv_istore_n (lv' := [(1, .int (t - (-600))), (0, .int t)]) hx hb dX4_vapourAt_5 rfl hl (by decide) rfl (fun ls hl => ?_)
  refine lv_iload_n hx hb dX4_vapourAt_6 rfl (lv_at hl 0 rfl) ?_
  refine lv_bipush (v := 10) hx hb dX4_vapourAt_7 (by decide) ?_
  refine lv_idiv hx hb dX4_vapourAt_9 (by decide) ?_
  refine lv_istore_n (lv' := [(2, .int ((t - (-600)) / 10)), (1, .int (t - (-600))), (0, .int t)]) hx hb dX4_vapourAt_10 rfl hl (by decide) rfl (fun ls hl => ?_)
  refine lv_iload_n hx hb dX4_vapourAt_11 rfl (lv_at hl 1 rfl) ?_
  refine lv_bipush (v := 10) hx hb dX4_vapourAt_12 (by decide) ?_
  refine lv_irem hx hb dX4_vapourAt_14 (by decide) ?_
  refine lv_istore_n (lv' := [(3, .int ((t - (-600)) - (t - (-600)) / 10 * 10)), (2, .int ((t - (-600)) / 10)), (1, .int (t - (-600))), (0, .int t)]) hx hb dX4_vapourAt_15 rfl hl (by decide) rfl (fun ls hl => ?_)
  refine lv_iload_n hx hb dX4_vapourAt_16 rfl (lv_at hl 1 rfl) ?_
  refine lv_iconst (v := 2) hx hb dX4_vapourAt_17 (by decide) ?_
  refine lv_iadd hx hb dX4_vapourAt_18 ?_
  refine lv_istore (lv' := [(4, .int (((t - (-600)) / 10) + 2)), (3, .int ((t - (-600)) - (t - (-600)) / 10 * 10)), (2, .int ((t - (-600)) / 10)), (1, .int (t - (-600))), (0, .int t)]) hx hb dX4_vapourAt_19 hl (by decide) rfl (fun ls hl => ?_)
  refine lv_iload_n hx hb dX4_vapourAt_21 rfl (lv_at hl 2 rfl) ?_
  refine lv_iconst (v := 3) hx hb dX4_vapourAt_22 (by decide) ?_
  refine lv_iadd hx hb dX4_vapourAt_23 ?_
  refine lv_istore (lv' := [(5, .int (((t - (-600)) / 10) + 3)), (4, .int (((t - (-600)) / 10) + 2)), (3, .int ((t - (-600)) - (t - (-600)) / 10 * 10)), (2, .int ((t - (-600)) / 10)), (1, .int (t - (-600))), (0, .int t)]) hx hb dX4_vapourAt_24 hl (by decide) rfl (fun ls hl => ?_)
  refine lv_iload hx hb dX4_vapourAt_26 (lv_at hl 1 rfl) ?_
  refine lv_iload hx hb dX4_vapourAt_28 (lv_at hl 1 rfl) ?_
  refine lv_imul hx hb dX4_vapourAt_30 ?_
  refine lv_iload hx hb dX4_vapourAt_31 (lv_at hl 1 rfl) ?_
  refine lv_imul hx hb dX4_vapourAt_33 ?_
  refine lv_bipush (v := 20) hx hb dX4_vapourAt_34 (by decide) ?_
  refine lv_idiv hx hb dX4_vapourAt_36 (by decide) ?_
  refine lv_istore (lv' := [(6, .int ((((((t - (-600)) / 10) + 2) * (((t - (-600)) / 10) + 2)) * (((t - (-600)) / 10) + 2)) / 20)), (5, .int (((t - (-600)) / 10) + 3)), (4, .int (((t - (-600)) / 10) + 2)), (3, .int ((t - (-600)) - (t - (-600)) / 10 * 10)), (2, .int ((t - (-600)) / 10)), (1, .int (t - (-600))), (0, .int t)]) hx hb dX4_vapourAt_37 hl (by decide) rfl (fun ls hl => ?_)
  refine lv_iload hx hb dX4_vapourAt_39 (lv_at hl 1 rfl) ?_
  refine lv_iload hx hb dX4_vapourAt_41 (lv_at hl 1 rfl) ?_
  refine lv_imul hx hb dX4_vapourAt_43 ?_
  refine lv_iload hx hb dX4_vapourAt_44 (lv_at hl 1 rfl) ?_
  refine lv_imul hx hb dX4_vapourAt_46 ?_
  refine lv_bipush (v := 20) hx hb dX4_vapourAt_47 (by decide) ?_
  refine lv_idiv hx hb dX4_vapourAt_49 (by decide) ?_
  refine lv_istore (lv' := [(7, .int ((((((t - (-600)) / 10) + 3) * (((t - (-600)) / 10) + 3)) * (((t - (-600)) / 10) + 3)) / 20)), (6, .int ((((((t - (-600)) / 10) + 2) * (((t - (-600)) / 10) + 2)) * (((t - (-600)) / 10) + 2)) / 20)), (5, .int (((t - (-600)) / 10) + 3)), (4, .int (((t - (-600)) / 10) + 2)), (3, .int ((t - (-600)) - (t - (-600)) / 10 * 10)), (2, .int ((t - (-600)) / 10)), (1, .int (t - (-600))), (0, .int t)]) hx hb dX4_vapourAt_50 hl (by decide) rfl (fun ls hl => ?_)
  refine lv_iload hx hb dX4_vapourAt_52 (lv_at hl 1 rfl) ?_
  refine lv_bipush (v := 10) hx hb dX4_vapourAt_54 (by decide) ?_
  refine lv_iload_n hx hb dX4_vapourAt_56 rfl (lv_at hl 4 rfl) ?_
  refine lv_isub hx hb dX4_vapourAt_57 ?_
  refine lv_imul hx hb dX4_vapourAt_58 ?_
  refine lv_iload hx hb dX4_vapourAt_59 (lv_at hl 0 rfl) ?_
  refine lv_iload_n hx hb dX4_vapourAt_61 rfl (lv_at hl 4 rfl) ?_
  refine lv_imul hx hb dX4_vapourAt_62 ?_
  refine lv_iadd hx hb dX4_vapourAt_63 ?_
  refine lv_bipush (v := 10) hx hb dX4_vapourAt_64 (by decide) ?_
  refine lv_idiv hx hb dX4_vapourAt_66 (by decide) ?_
  exact hend _ _ _ _ _ (by rw [← hr, r_X4_vapourAt]) hP hS dX4_vapourAt_67
def r_X4_steamAt (t : Int32) (b : Int32) (p0 : Int32) : Int32 := (r_X4_quotient ((if 0 < ((r_X4_vapourAt t) - p0) then ((r_X4_vapourAt t) - p0) else 0) * 10) b)
theorem ck_X4_steamAt : CK yX4_steamAt cX4_steamAt 3 (some .int) 3 := ⟨wd_1_204, wd_1_1, by decide, by decide, by decide +kernel⟩
set_option maxHeartbeats 4000000 in
set_option maxRecDepth 100000 in
theorem c_X4_steamAt (l : Launch) (D : va_G) (cI : ClassId) (t : Int32) (b : Int32) (p0 : Int32) : MI l D cI yX4_steamAt cX4_steamAt 3 (some .int) 1 27 [.int t, .int b, .int p0] [] (r_X4_steamAt t b p0) [] := by
  generalize hr : (r_X4_steamAt t b p0) = r
  refine MI.mk (own := RX4) rfl (by decide) rfl (Nat.le_of_ble_eq_true rfl) ?_
  intro p e s m args below meth c A Q C hD hend H locs ls hP hS hl
  have hx := C.1.1
  have hb := C.1.2.1
  have hl : lv_has ls 3 [(0, .int t), (1, .int b), (2, .int p0)] := hl
  refine lv_iconst (v := 0) hx hb dX4_steamAt_0 (by decide) ?_
  refine lv_iload_n hx hb dX4_steamAt_1 rfl (lv_at hl 0 rfl) ?_
  refine go_i (ws' := []) C (rn_S (As := [.int t]) (rest := [.int 0]) C (c_X4_vapourAt l D cI t H.size) ck_X4_vapourAt wd_1_192 wd_1_191 ⟨Nat.le_of_ble_eq_true rfl, Nat.le_of_ble_eq_true rfl⟩ ⟨Nat.le_refl _, Nat.le_refl _⟩ hP hD hS [] rfl rfl hl rfl (Nat.le_of_ble_eq_true rfl) dX4_steamAt_2) hP hD hS [] rfl rfl rfl (fun H locs hP hD hS => ?_)
  refine lv_iload_n hx hb dX4_steamAt_5 rfl (lv_at hl 2 rfl) ?_
  refine lv_isub hx hb dX4_steamAt_6 ?_
  refine kmax C hl wd_1_205 wd_1_206 wd_1_8 wd_1_207 ⟨by decide, Nat.le_of_ble_eq_true rfl⟩ ⟨Nat.le_refl _, Nat.le_refl _⟩ dX4_steamAt_7 ?_
  refine lv_bipush (v := 10) hx hb dX4_steamAt_10 (by decide) ?_
  refine lv_imul hx hb dX4_steamAt_12 ?_
  refine lv_iload_n hx hb dX4_steamAt_13 rfl (lv_at hl 1 rfl) ?_
  refine go_i (ws' := []) C (rn_S (As := [.int ((if 0 < ((r_X4_vapourAt t) - p0) then ((r_X4_vapourAt t) - p0) else 0) * 10), .int b]) (rest := []) C (c_X4_quotient l D cI ((if 0 < ((r_X4_vapourAt t) - p0) then ((r_X4_vapourAt t) - p0) else 0) * 10) b H.size) ck_X4_quotient wd_1_209 wd_1_208 ⟨Nat.le_of_ble_eq_true rfl, Nat.le_of_ble_eq_true rfl⟩ ⟨Nat.le_refl _, Nat.le_refl _⟩ hP hD hS [] rfl rfl hl rfl (Nat.le_of_ble_eq_true rfl) dX4_steamAt_14) hP hD hS [] rfl rfl rfl (fun H locs hP hD hS => ?_)
  exact hend _ _ _ _ _ (by rw [← hr, r_X4_steamAt]) hP hS dX4_steamAt_17
def r_X3_has (k : Int32) : Int32 := (r_X4_within k 0 10)
theorem ck_X3_has : CK yX3_has cX3_has 1 (some .boolean) 1 := ⟨wd_1_168, wd_1_2, by decide, by decide, by decide +kernel⟩
theorem b_X3_has (k : Int32) : (r_X3_has k) = 0 ∨ (r_X3_has k) = 1 := b_X4_within _ _ _
set_option maxHeartbeats 4000000 in
set_option maxRecDepth 100000 in
theorem c_X3_has (l : Launch) (D : va_G) (cI : ClassId) (k : Int32) : MI l D cI yX3_has cX3_has 1 (some .boolean) 1 22 [.int k] [] (r_X3_has k) [] := by
  have hn : narrow .boolean (.int (r_X3_has k)) = .int (r_X3_has k) := nb (b_X3_has k)
  generalize hr : (r_X3_has k) = r at hn ⊢
  refine MI.mk (own := RX3) rfl (by decide) hn (Nat.le_of_ble_eq_true rfl) ?_
  intro p e s m args below meth c A Q C hD hend H locs ls hP hS hl
  have hx := C.1.1
  have hb := C.1.2.1
  have hl : lv_has ls 1 [(0, .int k)] := hl
  refine lv_iload_n hx hb dX3_has_0 rfl (lv_at hl 0 rfl) ?_
  refine lv_iconst (v := 0) hx hb dX3_has_1 (by decide) ?_
  refine lv_bipush (v := 10) hx hb dX3_has_2 (by decide) ?_
  refine go_i (ws' := []) C (rn_N (As := [.int k, .int 0, .int 10]) (rest := []) C (c_X4_within l D cI k 0 10 H.size) ck_X4_within wd_1_156 C.2.2.1.2.2.2.2.2 ⟨Nat.le_of_ble_eq_true rfl, Nat.le_of_ble_eq_true rfl⟩ ⟨Nat.le_refl _, Nat.le_refl _⟩ hP hD hS [] rfl rfl hl rfl (Nat.le_of_ble_eq_true rfl) dX3_has_4) hP hD hS [] rfl rfl rfl (fun H locs hP hD hS => ?_)
  exact hend _ _ _ _ _ (by rw [← hr, r_X3_has]) hP hS dX3_has_7
end
section
theorem fu_ex (k : Nat) : ∃ n : Nat, n = k := ⟨k, rfl⟩
noncomputable def fu (k : Nat) : Nat := Classical.choose (fu_ex k)
theorem fu_eq (k : Nat) : fu k = k := Classical.choose_spec (fu_ex k)
theorem tI_le (a b : Int32) : a ≤ b ↔ a.toInt ≤ b.toInt := Int32.le_iff_toInt_le
theorem tI_lt (a b : Int32) : a < b ↔ a.toInt < b.toInt := Int32.lt_iff_toInt_lt
theorem tI_eq (a b : Int32) : a = b ↔ a.toInt = b.toInt := ⟨fun h => by rw [h], fun h => Int32.toInt_inj.mp h⟩
theorem rng (x : Int32) : -2147483648 ≤ x.toInt ∧ x.toInt < 2147483648 := ⟨by have := Int32.le_toInt x; simpa using this, by have := Int32.toInt_lt x; simpa using this⟩
theorem addI {x y : Int32} (h1 : -2147483648 ≤ x.toInt + y.toInt) (h2 : x.toInt + y.toInt < 2147483648) : (x + y).toInt = x.toInt + y.toInt := by
  rw [Int32.toInt_add, Int.bmod_eq_of_le (by omega) (by omega)]
theorem subI {x y : Int32} (h1 : -2147483648 ≤ x.toInt - y.toInt) (h2 : x.toInt - y.toInt < 2147483648) : (x - y).toInt = x.toInt - y.toInt := by
  rw [Int32.toInt_sub, Int.bmod_eq_of_le (by omega) (by omega)]
theorem mulI {x y : Int32} (h1 : -2147483648 ≤ x.toInt * y.toInt) (h2 : x.toInt * y.toInt < 2147483648) : (x * y).toInt = x.toInt * y.toInt := by
  rw [Int32.toInt_mul, Int.bmod_eq_of_le (by omega) (by omega)]
theorem wit {v a b : Int32} : (¬ r_X4_within v a b = 0) ↔ (a.toInt ≤ v.toInt ∧ v.toInt ≤ b.toInt) := by
  unfold r_X4_within
  by_cases h1 : v < a
  · rw [if_pos h1]
    have := (tI_lt v a).mp h1
    constructor
    · intro h; exact absurd rfl h
    · intro h; omega
  · rw [if_neg h1]
    have h1' : ¬ v.toInt < a.toInt := fun h => h1 ((tI_lt v a).mpr h)
    by_cases h2 : b < v
    · rw [if_pos h2]
      have := (tI_lt b v).mp h2
      constructor
      · intro h; exact absurd rfl h
      · intro h; omega
    · rw [if_neg h2]
      have h2' : ¬ b.toInt < v.toInt := fun h => h2 ((tI_lt b v).mpr h)
      constructor
      · intro _; omega
      · intro _ h; exact absurd h (by decide)
theorem in_has {k : Int32} (h : ¬ r_X3_has k = 0) : vp_in k 11 := by
  have h := wit.mp h
  have e0 : (0 : Int32).toInt = 0 := rfl
  have e1 : (10 : Int32).toInt = 10 := rfl
  exact vp_in_iff.mpr (by omega)
def r_X3_valueOf (R : Nat → Int32) (k : Int32) : Int32 := (if (r_X3_has k) = 0 then 0 else (R (Int32.toNatClampNeg k)))
theorem ck_X3_valueOf : CK yX3_valueOf cX3_valueOf 2 (some .int) 1 := ⟨wd_1_185, wd_1_2, by decide, by decide, by decide +kernel⟩
set_option maxHeartbeats 4000000 in
set_option maxRecDepth 100000 in
theorem c_X3_valueOf (l : Launch) (D : va_G) (cI : ClassId) (ar : Nat) (av : Nat) (R : Nat → Int32) (k : Int32) : MI l D cI yX3_valueOf cX3_valueOf 2 (some .int) 2 42 [.ref ar, .int k] [rc ar av, ac cI av 11 R] (r_X3_valueOf R k) [rc ar av, ac cI av 11 R] := by
  generalize hr : (r_X3_valueOf R k) = r
  refine MI.mk (own := RX3) rfl (by decide) rfl (Nat.le_of_ble_eq_true rfl) ?_
  intro p e s m args below meth c A Q C hD hend H locs ls hP hS hl
  have hx := C.1.1
  have hb := C.1.2.1
  have hl : lv_has ls 2 [(0, .ref ar), (1, .int k)] := hl
  refine lv_iload_n hx hb dX3_valueOf_0 rfl (lv_at hl 1 rfl) ?_
  refine go_i (ws' := [rc ar av, ac cI av 11 R]) C (rn_S (As := [.int k]) (rest := []) C (c_X3_has l D cI k H.size) ck_X3_has wd_1_167 wd_1_173 ⟨Nat.le_of_ble_eq_true rfl, Nat.le_of_ble_eq_true rfl⟩ ⟨Nat.le_refl _, Nat.le_refl _⟩ hP hD hS [] rfl rfl hl rfl (Nat.le_of_ble_eq_true rfl) dX3_valueOf_1) hP hD hS [] rfl rfl rfl (fun H locs hP hD hS => ?_)
  refine lv_if_eq (tgt := 16) hx hb dX3_valueOf_4 (by decide) (fun c1 => ?_) (fun c1 => ?_)
  · refine lv_iconst (v := 0) hx hb dX3_valueOf_16 (by decide) ?_
    exact hend _ _ _ _ _ (by rw [← hr, r_X3_valueOf, if_pos c1]) hP hS dX3_valueOf_17
  · refine lv_aload_n hx hb dX3_valueOf_7 rfl (lv_at hl 0 rfl) ?_
    refine kget (v := .ref av) C hP igX3 rfl 0 (by decide) wd_1_28 0 rfl rfl dX3_valueOf_8 ?_
    refine lv_iload_n hx hb dX3_valueOf_11 rfl (lv_at hl 1 rfl) ?_
    refine kald C hP 1 rfl (in_has c1) (k := (Int32.toNatClampNeg k)) rfl dX3_valueOf_12 ?_
    refine lv_goto (tgt := 17) hx hb dX3_valueOf_13 (by decide) ?_
    exact hend _ _ _ _ _ (by rw [← hr, r_X3_valueOf, if_neg c1]) hP hS dX3_valueOf_17
def r_X3_bars (R : Nat → Int32) (dd : Int32) : Int32 := ((R 4) + ((R 5) * dd))
theorem ck_X3_bars : CK yX3_bars cX3_bars 2 (some .int) 1 := ⟨wd_1_201, wd_1_2, by decide, by decide, by decide +kernel⟩
set_option maxHeartbeats 4000000 in
set_option maxRecDepth 100000 in
theorem c_X3_bars (l : Launch) (D : va_G) (cI : ClassId) (ar : Nat) (av : Nat) (R : Nat → Int32) (dd : Int32) : MI l D cI yX3_bars cX3_bars 2 (some .int) 0 0 [.ref ar, .int dd] [rc ar av, ac cI av 11 R] (r_X3_bars R dd) [rc ar av, ac cI av 11 R] := by
  generalize hr : (r_X3_bars R dd) = r
  refine MI.mk (own := RX3) rfl (by decide) rfl (Nat.le_of_ble_eq_true rfl) ?_
  intro p e s m args below meth c A Q C hD hend H locs ls hP hS hl
  have hx := C.1.1
  have hb := C.1.2.1
  have hl : lv_has ls 2 [(0, .ref ar), (1, .int dd)] := hl
  refine lv_aload_n hx hb dX3_bars_0 rfl (lv_at hl 0 rfl) ?_
  refine kget (v := .ref av) C hP igX3 rfl 0 (by decide) wd_1_28 0 rfl rfl dX3_bars_1 ?_
  refine lv_iconst (v := 4) hx hb dX3_bars_4 (by decide) ?_
  refine kald C hP 1 rfl (vp_in_iff.mpr (by decide)) (k := 4) rfl dX3_bars_5 ?_
  refine lv_aload_n hx hb dX3_bars_6 rfl (lv_at hl 0 rfl) ?_
  refine kget (v := .ref av) C hP igX3 rfl 0 (by decide) wd_1_28 0 rfl rfl dX3_bars_7 ?_
  refine lv_iconst (v := 5) hx hb dX3_bars_10 (by decide) ?_
  refine kald C hP 1 rfl (vp_in_iff.mpr (by decide)) (k := 5) rfl dX3_bars_11 ?_
  refine lv_iload_n hx hb dX3_bars_12 rfl (lv_at hl 1 rfl) ?_
  refine lv_imul hx hb dX3_bars_13 ?_
  refine lv_iadd hx hb dX3_bars_14 ?_
  exact hend _ _ _ _ _ (by rw [← hr, r_X3_bars]) hP hS dX3_bars_15
def r_X3_allows (k : Int32) (v : Int32) : Int32 := (if (r_X3_has k) = 0 then 0 else (if (r_X4_within v (fLEAST (Int32.toNatClampNeg k)) (fMOST (Int32.toNatClampNeg k))) = 0 then 0 else 1))
theorem ck_X3_allows : CK yX3_allows cX3_allows 2 (some .boolean) 2 := ⟨wd_1_172, wd_1_2, by decide, by decide, by decide +kernel⟩
theorem b_X3_allows (k : Int32) (v : Int32) : (r_X3_allows k v) = 0 ∨ (r_X3_allows k v) = 1 := by
  unfold r_X3_allows
  repeat' split
  all_goals first | exact Or.inl rfl | exact Or.inr rfl | exact b_X4_within _ _ _
set_option maxHeartbeats 4000000 in
set_option maxRecDepth 100000 in
theorem c_X3_allows (l : Launch) (D : va_G) (cI : ClassId) (k : Int32) (v : Int32) : MI l D cI yX3_allows cX3_allows 2 (some .boolean) 2 42 [.int k, .int v] [] (r_X3_allows k v) [] := by
  have hn : narrow .boolean (.int (r_X3_allows k v)) = .int (r_X3_allows k v) := nb (b_X3_allows k v)
  generalize hr : (r_X3_allows k v) = r at hn ⊢
  refine MI.mk (own := RX3) rfl (by decide) hn (Nat.le_of_ble_eq_true rfl) ?_
  intro p e s m args below meth c A Q C hD hend H locs ls hP hS hl
  have hx := C.1.1
  have hb := C.1.2.1
  have hl : lv_has ls 2 [(0, .int k), (1, .int v)] := hl
  refine lv_iload_n hx hb dX3_allows_0 rfl (lv_at hl 0 rfl) ?_
  refine go_i (ws' := []) C (rn_S (As := [.int k]) (rest := []) C (c_X3_has l D cI k H.size) ck_X3_has wd_1_167 wd_1_173 ⟨Nat.le_of_ble_eq_true rfl, Nat.le_of_ble_eq_true rfl⟩ ⟨Nat.le_refl _, Nat.le_refl _⟩ hP hD hS [] rfl rfl hl rfl (Nat.le_of_ble_eq_true rfl) dX3_allows_1) hP hD hS [] rfl rfl rfl (fun H locs hP hD hS => ?_)
  refine lv_if_eq (tgt := 28) hx hb dX3_allows_4 (by decide) (fun c1 => ?_) (fun c1 => ?_)
  · refine lv_iconst (v := 0) hx hb dX3_allows_28 (by decide) ?_
    exact hend _ _ _ _ _ (by rw [← hr, r_X3_allows, if_pos c1]) hP hS dX3_allows_29
  · refine lv_iload_n hx hb dX3_allows_7 rfl (lv_at hl 1 rfl) ?_
    obtain ⟨zL, hZ_zL, hX_zL, hb_zL, hn_zL⟩ := C.2.2.2.1.1
    refine va_gets hx hb hZ_zL hS C.1.2.2.2.1 (C.1.2.2.2.2 _ wd_1_174) (fun _ h => h) dX3_allows_8 ?_
    refine lv_iload_n hx hb dX3_allows_11 rfl (lv_at hl 0 rfl) ?_
    refine va_sld hx hb hX_zL hb_zL hn_zL hS (in_has c1) dX3_allows_12 ?_
    obtain ⟨zM, hZ_zM, hX_zM, hb_zM, hn_zM⟩ := C.2.2.2.1.2.1
    refine va_gets hx hb hZ_zM hS C.1.2.2.2.1 (C.1.2.2.2.2 _ wd_1_176) (fun _ h => h) dX3_allows_13 ?_
    refine lv_iload_n hx hb dX3_allows_16 rfl (lv_at hl 0 rfl) ?_
    refine va_sld hx hb hX_zM hb_zM hn_zM hS (in_has c1) dX3_allows_17 ?_
    refine go_i (ws' := []) C (rn_N (As := [.int v, .int (fLEAST (Int32.toNatClampNeg k)), .int (fMOST (Int32.toNatClampNeg k))]) (rest := []) C (c_X4_within l D cI v (fLEAST (Int32.toNatClampNeg k)) (fMOST (Int32.toNatClampNeg k)) H.size) ck_X4_within wd_1_156 C.2.2.1.2.2.2.2.2 ⟨Nat.le_of_ble_eq_true rfl, Nat.le_of_ble_eq_true rfl⟩ ⟨Nat.le_refl _, Nat.le_refl _⟩ hP hD hS [] rfl rfl hl rfl (Nat.le_of_ble_eq_true rfl) dX3_allows_18) hP hD hS [] rfl rfl rfl (fun H locs hP hD hS => ?_)
    refine lv_if_eq (tgt := 28) hx hb dX3_allows_21 (by decide) (fun c2 => ?_) (fun c2 => ?_)
    · refine lv_iconst (v := 0) hx hb dX3_allows_28 (by decide) ?_
      exact hend _ _ _ _ _ (by rw [← hr, r_X3_allows, if_neg c1, if_pos c2]) hP hS dX3_allows_29
    · refine lv_iconst (v := 1) hx hb dX3_allows_24 (by decide) ?_
      refine lv_goto (tgt := 29) hx hb dX3_allows_25 (by decide) ?_
      exact hend _ _ _ _ _ (by rw [← hr, r_X3_allows, if_neg c1, if_neg c2]) hP hS dX3_allows_29
theorem in_allows {k v : Int32} (h : ¬ r_X3_allows k v = 0) : vp_in k 11 := by
  by_cases hh : r_X3_has k = 0
  · exact absurd (by rw [r_X3_allows, if_pos hh]) h
  · exact in_has hh
def r_X3_change (R : Nat → Int32) (k : Int32) (v : Int32) : Int32 := (if (r_X3_allows k v) = 0 then (r_X3_valueOf R k) else (r_X3_valueOf R k))
def q_X3_change_R (R : Nat → Int32) (k : Int32) (v : Int32) : Nat → Int32 := (if (r_X3_allows k v) = 0 then R else (upd R (Int32.toNatClampNeg k) v))
theorem ck_X3_change : CK yX3_change cX3_change 4 (some .int) 2 := ⟨wd_1_181, wd_1_2, by decide, by decide, by decide +kernel⟩
set_option maxHeartbeats 4000000 in
set_option maxRecDepth 100000 in
theorem c_X3_change (l : Launch) (D : va_G) (cI : ClassId) (ar : Nat) (av : Nat) (R : Nat → Int32) (k : Int32) (v : Int32) : MI l D cI yX3_change cX3_change 4 (some .int) 3 63 [.ref ar, .int k, .int v] [rc ar av, ac cI av 11 R] (r_X3_change R k v) [rc ar av, ac cI av 11 (q_X3_change_R R k v)] := by
  generalize hr : (r_X3_change R k v) = r
  generalize ho_R : (q_X3_change_R R k v) = o_R
  refine MI.mk (own := RX3) rfl (by decide) rfl (Nat.le_of_ble_eq_true rfl) ?_
  intro p e s m args below meth c A Q C hD hend H locs ls hP hS hl
  have hx := C.1.1
  have hb := C.1.2.1
  have hl : lv_has ls 4 [(0, .ref ar), (1, .int k), (2, .int v)] := hl
  refine lv_aload_n hx hb dX3_change_0 rfl (lv_at hl 0 rfl) ?_
  refine lv_iload_n hx hb dX3_change_1 rfl (lv_at hl 1 rfl) ?_
  refine go_i (ws' := [rc ar av, ac cI av 11 R]) C (rn_V (As := [.int k]) (rest := []) C (c_X3_valueOf l D cI ar av R k H.size) ck_X3_valueOf wd_1_183 wd_1_184 wd_1_182 ⟨Nat.le_of_ble_eq_true rfl, Nat.le_of_ble_eq_true rfl⟩ ⟨Nat.le_refl _, Nat.le_refl _⟩ (ci := 3) (q0 := 0) rfl rfl hP hD hS [0, 1] rfl rfl hl rfl (Nat.le_of_ble_eq_true rfl) dX3_change_2) hP hD hS [0, 1] rfl rfl rfl (fun H locs hP hD hS => ?_)
  refine lv_istore_n (lv' := [(3, .int (r_X3_valueOf R k)), (0, .ref ar), (1, .int k), (2, .int v)]) hx hb dX3_change_5 rfl hl (by decide) rfl (fun ls hl => ?_)
  refine lv_iload_n hx hb dX3_change_6 rfl (lv_at hl 2 rfl) ?_
  refine lv_iload_n hx hb dX3_change_7 rfl (lv_at hl 3 rfl) ?_
  refine go_i (ws' := [rc ar av, ac cI av 11 R]) C (rn_S (As := [.int k, .int v]) (rest := []) C (c_X3_allows l D cI k v H.size) ck_X3_allows wd_1_171 wd_1_186 ⟨Nat.le_of_ble_eq_true rfl, Nat.le_of_ble_eq_true rfl⟩ ⟨Nat.le_refl _, Nat.le_refl _⟩ hP hD hS [] rfl rfl hl rfl (Nat.le_of_ble_eq_true rfl) dX3_change_8) hP hD hS [] rfl rfl rfl (fun H locs hP hD hS => ?_)
  refine lv_if_eq (tgt := 21) hx hb dX3_change_11 (by decide) (fun c1 => ?_) (fun c1 => ?_)
  · refine lv_iload_n hx hb dX3_change_21 rfl (lv_at hl 0 rfl) ?_
    exact hend _ _ _ _ _ (by rw [← hr, r_X3_change, if_pos c1]) (by rw [← ho_R, q_X3_change_R, if_pos c1]; exact hP) hS dX3_change_22
  · refine lv_aload_n hx hb dX3_change_14 rfl (lv_at hl 1 rfl) ?_
    refine kget (v := .ref av) C hP igX3 rfl 0 (by decide) wd_1_28 0 rfl rfl dX3_change_15 ?_
    refine lv_iload_n hx hb dX3_change_18 rfl (lv_at hl 2 rfl) ?_
    refine lv_iload_n hx hb dX3_change_19 rfl (lv_at hl 3 rfl) ?_
    refine kast (ws' := [rc ar av, ac cI av 11 (upd R (Int32.toNatClampNeg k) v)]) C hP hD hS 1 rfl (in_allows c1) (k := (Int32.toNatClampNeg k)) rfl rfl dX3_change_20 (fun H locs hP hD hS => ?_)
    refine lv_iload_n hx hb dX3_change_21 rfl (lv_at hl 0 rfl) ?_
    exact hend _ _ _ _ _ (by rw [← hr, r_X3_change, if_neg c1]) (by rw [← ho_R, q_X3_change_R, if_neg c1]; exact hP) hS dX3_change_22
theorem half_lt {st : Int32} {n : Nat} (h : ¬ st ≤ 0) (hm : st.toNatClampNeg < n + 1) : (st / 2).toNatClampNeg < n := by
  have h0 : ¬ st.toInt ≤ 0 := fun z => h ((tI_le st 0).mpr z)
  obtain ⟨j, hj, rfl⟩ := nI_of (x := st) (fun z => h0 (by have := (tI_lt st 0).mp z; have e : (0 : Int32).toInt = 0 := rfl; omega))
  rw [show (2 : Int32) = nI 2 from rfl, pk_div hj (by decide) (by decide), nI_clamp (by omega)]
  rw [nI_clamp hj] at hm
  rw [nI_toInt hj] at h0
  omega
def mg_X0_fill_17 (vn : Int32) (ic : Int32) : Int32 := (if vn ≤ 0 then 0 else ic)
def q_X0_fill_G (vn : Int32) (fn : Int32) (ht : Int32) (ic : Int32) : Nat → Int32 := (g8 vn fn (mg_X0_fill_17 vn ic) 0 (-6) ht (-6) (-6))
theorem ck_X0_fill : CK yX0_fill cX0_fill 5 none 4 := ⟨wd_1_232, wd_1_5, by decide, by decide, by decide +kernel⟩
set_option maxHeartbeats 4000000 in
set_option maxRecDepth 100000 in
theorem c_X0_fill (l : Launch) (D : va_G) (cI : ClassId) (ag : Nat) (G : Nat → Int32) (vn : Int32) (fn : Int32) (ht : Int32) (ic : Int32) : MV l D cI yX0_fill cX0_fill 5 0 0 [.ref ag, .int vn, .int fn, .int ht, .int ic] [gc ag G] [gc ag (q_X0_fill_G vn fn ht ic)] := by
  generalize ho_G : (q_X0_fill_G vn fn ht ic) = o_G
  refine MV.mk (own := RX0) rfl (by decide) (Nat.le_of_ble_eq_true rfl) ?_
  intro p e s m args below meth c A Q C hD hend H locs ls hP hS hl
  have hx := C.1.1
  have hb := C.1.2.1
  have hl : lv_has ls 5 [(0, .ref ag), (1, .int vn), (2, .int fn), (3, .int ht), (4, .int ic)] := hl
  refine lv_aload_n hx hb dX0_fill_0 rfl (lv_at hl 0 rfl) ?_
  refine lv_iload_n hx hb dX0_fill_1 rfl (lv_at hl 1 rfl) ?_
  refine kput (ty := .int) (ws' := [gc ag (g8 vn (G 1) (G 2) (G 3) (G 4) (G 5) (G 6) (G 7))]) C hP hD hS igX0 tyX0_ok nmX0 rfl 0 (by decide) wd_1_45 rfl rfl rfl rfl 0 rfl (Nat.le_of_ble_eq_true rfl) rfl dX0_fill_2 (fun H locs hP hD hS => ?_)
  refine lv_aload_n hx hb dX0_fill_5 rfl (lv_at hl 0 rfl) ?_
  refine lv_iload_n hx hb dX0_fill_6 rfl (lv_at hl 2 rfl) ?_
  refine kput (ty := .int) (ws' := [gc ag (g8 vn fn (G 2) (G 3) (G 4) (G 5) (G 6) (G 7))]) C hP hD hS igX0 tyX0_ok nmX0 rfl 1 (by decide) wd_1_47 rfl rfl rfl rfl 0 rfl (Nat.le_of_ble_eq_true rfl) rfl dX0_fill_7 (fun H locs hP hD hS => ?_)
  refine lv_aload_n hx hb dX0_fill_10 rfl (lv_at hl 0 rfl) ?_
  refine lv_iload_n hx hb dX0_fill_11 rfl (lv_at hl 3 rfl) ?_
  refine kput (ty := .int) (ws' := [gc ag (g8 vn fn (G 2) (G 3) (G 4) ht (G 6) (G 7))]) C hP hD hS igX0 tyX0_ok nmX0 rfl 5 (by decide) wd_1_56 rfl rfl rfl rfl 0 rfl (Nat.le_of_ble_eq_true rfl) rfl dX0_fill_12 (fun H locs hP hD hS => ?_)
  refine lv_aload_n hx hb dX0_fill_15 rfl (lv_at hl 0 rfl) ?_
  refine lv_iload_n hx hb dX0_fill_16 rfl (lv_at hl 1 rfl) ?_
  have j26 : ∀ (ls : Array Slot) (H : Heap) (locs : List Loc), lv_has ls 5 [(0, .ref ag), (1, .int vn), (2, .int fn), (3, .int ht), (4, .int ic)] → va_P D vwCl [gc ag (g8 vn fn (G 2) (G 3) (G 4) ht (G 6) (G 7))] H → va_D A [gc ag (g8 vn fn (G 2) (G 3) (G 4) ht (G 6) (G 7))] → va_S A s.heap H locs → W p l e (RM 0 0) s m args below meth c H locs 0 0 Q (F0 m 26 ls [.int (mg_X0_fill_17 vn ic), .ref ag]) := by
    intro ls H locs hl hP hD hS
    refine kput (ty := .int) (ws' := [gc ag (g8 vn fn (mg_X0_fill_17 vn ic) (G 3) (G 4) ht (G 6) (G 7))]) C hP hD hS igX0 tyX0_ok nmX0 rfl 2 (by decide) wd_1_49 rfl rfl rfl rfl 0 rfl (Nat.le_of_ble_eq_true rfl) rfl dX0_fill_26 (fun H locs hP hD hS => ?_)
    refine lv_aload_n hx hb dX0_fill_29 rfl (lv_at hl 0 rfl) ?_
    refine lv_iconst (v := 0) hx hb dX0_fill_30 (by decide) ?_
    refine kput (ty := .int) (ws' := [gc ag (g8 vn fn (mg_X0_fill_17 vn ic) 0 (G 4) ht (G 6) (G 7))]) C hP hD hS igX0 tyX0_ok nmX0 rfl 3 (by decide) wd_1_51 rfl rfl rfl rfl 0 rfl (Nat.le_of_ble_eq_true rfl) rfl dX0_fill_31 (fun H locs hP hD hS => ?_)
    refine lv_aload_n hx hb dX0_fill_34 rfl (lv_at hl 0 rfl) ?_
    refine lv_bipush (v := (-6)) hx hb dX0_fill_35 (by decide) ?_
    refine kput (ty := .int) (ws' := [gc ag (g8 vn fn (mg_X0_fill_17 vn ic) 0 (G 4) ht (-6) (G 7))]) C hP hD hS igX0 tyX0_ok nmX0 rfl 6 (by decide) wd_1_57 rfl rfl rfl rfl 0 rfl (Nat.le_of_ble_eq_true rfl) rfl dX0_fill_37 (fun H locs hP hD hS => ?_)
    refine lv_aload_n hx hb dX0_fill_40 rfl (lv_at hl 0 rfl) ?_
    refine lv_bipush (v := (-6)) hx hb dX0_fill_41 (by decide) ?_
    refine kput (ty := .int) (ws' := [gc ag (g8 vn fn (mg_X0_fill_17 vn ic) 0 (-6) ht (-6) (G 7))]) C hP hD hS igX0 tyX0_ok nmX0 rfl 4 (by decide) wd_1_53 rfl rfl rfl rfl 0 rfl (Nat.le_of_ble_eq_true rfl) rfl dX0_fill_43 (fun H locs hP hD hS => ?_)
    refine lv_aload_n hx hb dX0_fill_46 rfl (lv_at hl 0 rfl) ?_
    refine lv_bipush (v := (-6)) hx hb dX0_fill_47 (by decide) ?_
    refine kput (ty := .int) (ws' := [gc ag (g8 vn fn (mg_X0_fill_17 vn ic) 0 (-6) ht (-6) (-6))]) C hP hD hS igX0 tyX0_ok nmX0 rfl 7 (by decide) wd_1_58 rfl rfl rfl rfl 0 rfl (Nat.le_of_ble_eq_true rfl) rfl dX0_fill_49 (fun H locs hP hD hS => ?_)
    exact hend _ _ _ _ (by rw [← ho_G, q_X0_fill_G]; exact hP) hS dX0_fill_52
  refine lv_if_le (tgt := 25) hx hb dX0_fill_17 (by decide) (fun c1 => ?_) (fun c1 => ?_)
  · refine lv_iconst (v := 0) hx hb dX0_fill_25 (by decide) ?_
    have e_mg_X0_fill_17 : (mg_X0_fill_17 vn ic) = 0 := by rw [mg_X0_fill_17, if_pos c1]
    have jj := j26
    rw [e_mg_X0_fill_17] at jj
    exact jj ls H locs (lv_sub hl [0, 1, 2, 3, 4] rfl) hP hD hS
  · refine lv_iload hx hb dX0_fill_20 (lv_at hl 4 rfl) ?_
    refine lv_goto (tgt := 26) hx hb dX0_fill_22 (by decide) ?_
    have e_mg_X0_fill_17 : (mg_X0_fill_17 vn ic) = ic := by rw [mg_X0_fill_17, if_neg c1]
    have jj := j26
    rw [e_mg_X0_fill_17] at jj
    exact jj ls H locs (lv_sub hl [0, 1, 2, 3, 4] rfl) hP hD hS
def mg_X0_balance_24 (G : Nat → Int32) (sh : Int32) (bs : Int32) (p0 : Int32) (co : Int32) (t : Int32) (st : Int32) : Int32 := (if 0 < (t + st) then t else (if (((G 5) * (sh - (t + st))) / 10) < ((r_X4_steamAt (t + st) bs p0) * co) then t else (t + st)))
def lr_X0_balance_10 (G : Nat → Int32) (sh : Int32) (bs : Int32) (p0 : Int32) (co : Int32) : Nat → (Int32) → (Int32) → (Int32)
  | 0, _, _ => 0
  | n + 1, t, st => (if st ≤ 0 then t else (lr_X0_balance_10 G sh bs p0 co n (mg_X0_balance_24 G sh bs p0 co t st) (st / 2)))
noncomputable def r_X0_balance (G : Nat → Int32) (sh : Int32) (bs : Int32) (p0 : Int32) (co : Int32) : Int32 := (lr_X0_balance_10 G sh bs p0 co (fu 513) (-600) 512)
theorem ck_X0_balance : CK yX0_balance cX0_balance 8 (some .int) 4 := ⟨wd_2_36, wd_1_5, by decide, by decide, by decide +kernel⟩
set_option maxHeartbeats 4000000 in
set_option maxRecDepth 100000 in
theorem c_X0_balance (l : Launch) (D : va_G) (cI : ClassId) (ag : Nat) (G : Nat → Int32) (sh : Int32) (bs : Int32) (p0 : Int32) (co : Int32) : MI l D cI yX0_balance cX0_balance 8 (some .int) 2 49 [.ref ag, .int sh, .int bs, .int p0, .int co] [gc ag G] (r_X0_balance G sh bs p0 co) [gc ag G] := by
  generalize hr : (r_X0_balance G sh bs p0 co) = r
  refine MI.mk (own := RX0) rfl (by decide) rfl (Nat.le_of_ble_eq_true rfl) ?_
  intro p e s m args below meth c A Q C hD hend H locs ls hP hS hl
  have hx := C.1.1
  have hb := C.1.2.1
  have hl : lv_has ls 8 [(0, .ref ag), (1, .int sh), (2, .int bs), (3, .int p0), (4, .int co)] := hl
  refine lv_sipush (v := (-600)) hx hb dX0_balance_0 (by decide) ?_
  refine lv_istore (lv' := [(5, .int (-600)), (0, .ref ag), (1, .int sh), (2, .int bs), (3, .int p0), (4, .int co)]) hx hb dX0_balance_3 hl (by decide) rfl (fun ls hl => ?_)
  refine lv_sipush (v := 512) hx hb dX0_balance_5 (by decide) ?_
  refine lv_istore (lv' := [(6, .int 512), (5, .int (-600)), (0, .ref ag), (1, .int sh), (2, .int bs), (3, .int p0), (4, .int co)]) hx hb dX0_balance_8 hl (by decide) rfl (fun ls hl => ?_)
  have lp10 : ∀ (n : Nat) (t : Int32) (st : Int32), Int32.toNatClampNeg st < n → lr_X0_balance_10 G sh bs p0 co n t st = r → ∀ (ls : Array Slot) (H : Heap) (locs : List Loc), lv_has ls 8 [(0, .ref ag), (1, .int sh), (2, .int bs), (3, .int p0), (4, .int co), (5, .int t), (6, .int st)] → va_P D vwCl [gc ag G] H → va_D A [gc ag G] → va_S A s.heap H locs → W p l e (RM 2 49) s m args below meth c H locs 0 0 Q (F0 m 10 ls []) := by
    clear hl hP hD hS
    intro n
    induction n with
    | zero =>
      intro t st  hm
      exact absurd hm (Nat.not_lt_zero _)
    | succ n ih =>
      intro t st  hm hr ls H locs hl hP hD hS
      refine lv_iload hx hb dX0_balance_10 (lv_at hl 6 rfl) ?_
      refine lv_if_le (tgt := 65) hx hb dX0_balance_12 (by decide) (fun c1 => ?_) (fun c1 => ?_)
      · refine lv_iload hx hb dX0_balance_65 (lv_at hl 5 rfl) ?_
        exact hend _ _ _ _ _ (by rw [← hr, lr_X0_balance_10, if_pos c1]) hP hS dX0_balance_67
      · refine lv_iload hx hb dX0_balance_15 (lv_at hl 5 rfl) ?_
        refine lv_iload hx hb dX0_balance_17 (lv_at hl 6 rfl) ?_
        refine lv_iadd hx hb dX0_balance_19 ?_
        refine lv_istore (lv' := [(7, .int (t + st)), (0, .ref ag), (1, .int sh), (2, .int bs), (3, .int p0), (4, .int co), (5, .int t), (6, .int st)]) hx hb dX0_balance_20 hl (by decide) rfl (fun ls hl => ?_)
        refine lv_iload hx hb dX0_balance_22 (lv_at hl 0 rfl) ?_
        have j56 : ∀ (ls : Array Slot) (H : Heap) (locs : List Loc), lv_has ls 8 [(0, .ref ag), (1, .int sh), (2, .int bs), (3, .int p0), (4, .int co), (5, .int (mg_X0_balance_24 G sh bs p0 co t st)), (6, .int st), (7, .int (t + st))] → va_P D vwCl [gc ag G] H → va_D A [gc ag G] → va_S A s.heap H locs → W p l e (RM 2 49) s m args below meth c H locs 0 0 Q (F0 m 56 ls []) := by
          intro ls H locs hl hP hD hS
          refine lv_iload hx hb dX0_balance_56 (lv_at hl 6 rfl) ?_
          refine lv_iconst (v := 2) hx hb dX0_balance_58 (by decide) ?_
          refine lv_idiv hx hb dX0_balance_59 (by decide) ?_
          refine lv_istore (lv' := [(6, .int (st / 2)), (0, .ref ag), (1, .int sh), (2, .int bs), (3, .int p0), (4, .int co), (5, .int (mg_X0_balance_24 G sh bs p0 co t st)), (7, .int (t + st))]) hx hb dX0_balance_60 hl (by decide) rfl (fun ls hl => ?_)
          refine lv_goto (tgt := 10) hx hb dX0_balance_62 (by decide) ?_
          exact ih (mg_X0_balance_24 G sh bs p0 co t st) (st / 2)  (half_lt c1 hm) (by rw [← hr, lr_X0_balance_10, if_neg c1]) ls H locs (lv_sub hl [1, 2, 3, 4, 5, 6, 0] rfl) hP hD hS
        refine lv_if_gt (tgt := 56) hx hb dX0_balance_24 (by decide) (fun c2 => ?_) (fun c2 => ?_)
        · have e_mg_X0_balance_24 : (mg_X0_balance_24 G sh bs p0 co t st) = t := by rw [mg_X0_balance_24, if_pos c2]
          have jj := j56
          rw [e_mg_X0_balance_24] at jj
          exact jj ls H locs (lv_sub hl [1, 2, 3, 4, 5, 6, 7, 0] rfl) hP hD hS
        · refine lv_iload hx hb dX0_balance_27 (lv_at hl 0 rfl) ?_
          refine lv_iload_n hx hb dX0_balance_29 rfl (lv_at hl 3 rfl) ?_
          refine lv_iload_n hx hb dX0_balance_30 rfl (lv_at hl 4 rfl) ?_
          refine go_i (ws' := [gc ag G]) C (rn_N (As := [.int (t + st), .int bs, .int p0]) (rest := []) C (c_X4_steamAt l D cI (t + st) bs p0 H.size) ck_X4_steamAt wd_1_203 C.2.2.1.2.1 ⟨Nat.le_of_ble_eq_true rfl, Nat.le_of_ble_eq_true rfl⟩ ⟨Nat.le_refl _, Nat.le_refl _⟩ hP hD hS [] rfl rfl hl rfl (Nat.le_of_ble_eq_true rfl) dX0_balance_31) hP hD hS [] rfl rfl rfl (fun H locs hP hD hS => ?_)
          refine lv_iload hx hb dX0_balance_34 (lv_at hl 5 rfl) ?_
          refine lv_imul hx hb dX0_balance_36 ?_
          refine lv_aload_n hx hb dX0_balance_37 rfl (lv_at hl 1 rfl) ?_
          refine kget (v := .int (G 5)) C hP igX0 rfl 5 (by decide) wd_1_56 0 rfl rfl dX0_balance_38 ?_
          refine lv_iload_n hx hb dX0_balance_41 rfl (lv_at hl 2 rfl) ?_
          refine lv_iload hx hb dX0_balance_42 (lv_at hl 0 rfl) ?_
          refine lv_isub hx hb dX0_balance_44 ?_
          refine lv_imul hx hb dX0_balance_45 ?_
          refine lv_bipush (v := 10) hx hb dX0_balance_46 (by decide) ?_
          refine lv_idiv hx hb dX0_balance_48 (by decide) ?_
          refine lv_icmp_gt (tgt := 56) hx hb dX0_balance_49 (by decide) (fun c3 => ?_) (fun c3 => ?_)
          · have e_mg_X0_balance_24 : (mg_X0_balance_24 G sh bs p0 co t st) = t := by rw [mg_X0_balance_24, if_neg c2, if_pos c3]
            have jj := j56
            rw [e_mg_X0_balance_24] at jj
            exact jj ls H locs (lv_sub hl [1, 2, 3, 4, 5, 6, 7, 0] rfl) hP hD hS
          · refine lv_iload hx hb dX0_balance_52 (lv_at hl 0 rfl) ?_
            refine lv_istore (lv' := [(5, .int (t + st)), (7, .int (t + st)), (0, .ref ag), (1, .int sh), (2, .int bs), (3, .int p0), (4, .int co), (6, .int st)]) hx hb dX0_balance_54 hl (by decide) rfl (fun ls hl => ?_)
            have e_mg_X0_balance_24 : (mg_X0_balance_24 G sh bs p0 co t st) = (t + st) := by rw [mg_X0_balance_24, if_neg c2, if_neg c3]
            have jj := j56
            rw [e_mg_X0_balance_24] at jj
            exact jj ls H locs (lv_sub hl [2, 3, 4, 5, 6, 0, 7, 1] rfl) hP hD hS
  exact lp10 (fu 513) (-600) 512  (by rw [fu_eq]; decide) (by rw [← hr, r_X0_balance]) ls H locs (lv_sub hl [2, 3, 4, 5, 6, 1, 0] rfl) hP hD hS
def r_X0_tell (G : Nat → Int32) (k : Int32) : Int32 := (if k = 0 then (G 2) else (if k = 1 then (G 6) else (if k = 2 then (G 3) else (if k = 3 then (G 4) else (G 7)))))
theorem ck_X0_tell : CK yX0_tell cX0_tell 2 (some .int) 1 := ⟨wd_2_58, wd_1_5, by decide, by decide, by decide +kernel⟩
set_option maxHeartbeats 4000000 in
set_option maxRecDepth 100000 in
theorem c_X0_tell (l : Launch) (D : va_G) (cI : ClassId) (ag : Nat) (G : Nat → Int32) (k : Int32) : MI l D cI yX0_tell cX0_tell 2 (some .int) 0 0 [.ref ag, .int k] [gc ag G] (r_X0_tell G k) [gc ag G] := by
  generalize hr : (r_X0_tell G k) = r
  refine MI.mk (own := RX0) rfl (by decide) rfl (Nat.le_of_ble_eq_true rfl) ?_
  intro p e s m args below meth c A Q C hD hend H locs ls hP hS hl
  have hx := C.1.1
  have hb := C.1.2.1
  have hl : lv_has ls 2 [(0, .ref ag), (1, .int k)] := hl
  refine lv_iload_n hx hb dX0_tell_0 rfl (lv_at hl 1 rfl) ?_
  by_cases c1 : k = 0
  · refine lv_tableIn (off := 31) (tgt := 32) hx hb dX0_tell_1 (by rw [c1]; decide) (by rw [c1]; decide) (by rw [c1]; rfl) (by decide) ?_
    refine lv_aload_n hx hb dX0_tell_32 rfl (lv_at hl 0 rfl) ?_
    refine kget (v := .int (G 2)) C hP igX0 rfl 2 (by decide) wd_1_49 0 rfl rfl dX0_tell_33 ?_
    exact hend _ _ _ _ _ (by rw [← hr, r_X0_tell, if_pos c1]) hP hS dX0_tell_36
  · skip
    by_cases c2 : k = 1
    · refine lv_tableIn (off := 36) (tgt := 37) hx hb dX0_tell_1 (by rw [c2]; decide) (by rw [c2]; decide) (by rw [c2]; rfl) (by decide) ?_
      refine lv_aload_n hx hb dX0_tell_37 rfl (lv_at hl 0 rfl) ?_
      refine kget (v := .int (G 6)) C hP igX0 rfl 6 (by decide) wd_1_57 0 rfl rfl dX0_tell_38 ?_
      exact hend _ _ _ _ _ (by rw [← hr, r_X0_tell, if_neg c1, if_pos c2]) hP hS dX0_tell_41
    · skip
      by_cases c3 : k = 2
      · refine lv_tableIn (off := 41) (tgt := 42) hx hb dX0_tell_1 (by rw [c3]; decide) (by rw [c3]; decide) (by rw [c3]; rfl) (by decide) ?_
        refine lv_aload_n hx hb dX0_tell_42 rfl (lv_at hl 0 rfl) ?_
        refine kget (v := .int (G 3)) C hP igX0 rfl 3 (by decide) wd_1_51 0 rfl rfl dX0_tell_43 ?_
        exact hend _ _ _ _ _ (by rw [← hr, r_X0_tell, if_neg c1, if_neg c2, if_pos c3]) hP hS dX0_tell_46
      · skip
        by_cases c4 : k = 3
        · refine lv_tableIn (off := 46) (tgt := 47) hx hb dX0_tell_1 (by rw [c4]; decide) (by rw [c4]; decide) (by rw [c4]; rfl) (by decide) ?_
          refine lv_aload_n hx hb dX0_tell_47 rfl (lv_at hl 0 rfl) ?_
          refine kget (v := .int (G 4)) C hP igX0 rfl 4 (by decide) wd_1_53 0 rfl rfl dX0_tell_48 ?_
          exact hend _ _ _ _ _ (by rw [← hr, r_X0_tell, if_neg c1, if_neg c2, if_neg c3, if_pos c4]) hP hS dX0_tell_51
        · skip
          refine lv_tableOut (tgt := 52) hx hb dX0_tell_1 (ts_out (fun k h1 h2 => by rcases (by omega : k = 0 ∨ k = 1 ∨ k = 2 ∨ k = 3) with rfl | rfl | rfl | rfl <;> assumption)) (by decide) ?_
          refine lv_aload_n hx hb dX0_tell_52 rfl (lv_at hl 0 rfl) ?_
          refine kget (v := .int (G 7)) C hP igX0 rfl 7 (by decide) wd_1_58 0 rfl rfl dX0_tell_53 ?_
          exact hend _ _ _ _ _ (by rw [← hr, r_X0_tell, if_neg c1, if_neg c2, if_neg c3, if_neg c4]) hP hS dX0_tell_56
noncomputable def mg_X0_passMinute_101 (G : Nat → Int32) (R : Nat → Int32) (sh : Int32) (p0 : Int32) (mi : Int32) : Int32 := (if ((G 2) - (if (r_X4_steamAt (r_X0_balance G sh (r_X3_bars R (r_X4_quotient (100 * ((r_X3_valueOf R 0) - (G 2))) (r_X3_valueOf R 0))) p0 (r_X3_valueOf R 3)) (r_X3_bars R (r_X4_quotient (100 * ((r_X3_valueOf R 0) - (G 2))) (r_X3_valueOf R 0))) p0) < (G 2) then (r_X4_steamAt (r_X0_balance G sh (r_X3_bars R (r_X4_quotient (100 * ((r_X3_valueOf R 0) - (G 2))) (r_X3_valueOf R 0))) p0 (r_X3_valueOf R 3)) (r_X3_bars R (r_X4_quotient (100 * ((r_X3_valueOf R 0) - (G 2))) (r_X3_valueOf R 0))) p0) else (G 2))) = 0 then mi else (G 7))
noncomputable def q_X0_passMinute_G (G : Nat → Int32) (R : Nat → Int32) (sh : Int32) (p0 : Int32) (mi : Int32) : Nat → Int32 := (if (G 2) = 0 then (g8 (G 0) (G 1) (G 2) 0 (G 4) (G 5) sh (G 7)) else (if (G 4) = (-6) then (if (r_X0_balance G sh (r_X3_bars R (r_X4_quotient (100 * ((r_X3_valueOf R 0) - (G 2))) (r_X3_valueOf R 0))) p0 (r_X3_valueOf R 3)) ≤ (r_X3_valueOf R 6) then (g8 (G 0) (G 1) ((G 2) - (if (r_X4_steamAt (r_X0_balance G sh (r_X3_bars R (r_X4_quotient (100 * ((r_X3_valueOf R 0) - (G 2))) (r_X3_valueOf R 0))) p0 (r_X3_valueOf R 3)) (r_X3_bars R (r_X4_quotient (100 * ((r_X3_valueOf R 0) - (G 2))) (r_X3_valueOf R 0))) p0) < (G 2) then (r_X4_steamAt (r_X0_balance G sh (r_X3_bars R (r_X4_quotient (100 * ((r_X3_valueOf R 0) - (G 2))) (r_X3_valueOf R 0))) p0 (r_X3_valueOf R 3)) (r_X3_bars R (r_X4_quotient (100 * ((r_X3_valueOf R 0) - (G 2))) (r_X3_valueOf R 0))) p0) else (G 2))) (if (r_X4_steamAt (r_X0_balance G sh (r_X3_bars R (r_X4_quotient (100 * ((r_X3_valueOf R 0) - (G 2))) (r_X3_valueOf R 0))) p0 (r_X3_valueOf R 3)) (r_X3_bars R (r_X4_quotient (100 * ((r_X3_valueOf R 0) - (G 2))) (r_X3_valueOf R 0))) p0) < (G 2) then (r_X4_steamAt (r_X0_balance G sh (r_X3_bars R (r_X4_quotient (100 * ((r_X3_valueOf R 0) - (G 2))) (r_X3_valueOf R 0))) p0 (r_X3_valueOf R 3)) (r_X3_bars R (r_X4_quotient (100 * ((r_X3_valueOf R 0) - (G 2))) (r_X3_valueOf R 0))) p0) else (G 2)) (G 4) (G 5) (r_X0_balance G sh (r_X3_bars R (r_X4_quotient (100 * ((r_X3_valueOf R 0) - (G 2))) (r_X3_valueOf R 0))) p0 (r_X3_valueOf R 3)) (mg_X0_passMinute_101 G R sh p0 mi)) else (g8 (G 0) (G 1) ((G 2) - (if (r_X4_steamAt (r_X0_balance G sh (r_X3_bars R (r_X4_quotient (100 * ((r_X3_valueOf R 0) - (G 2))) (r_X3_valueOf R 0))) p0 (r_X3_valueOf R 3)) (r_X3_bars R (r_X4_quotient (100 * ((r_X3_valueOf R 0) - (G 2))) (r_X3_valueOf R 0))) p0) < (G 2) then (r_X4_steamAt (r_X0_balance G sh (r_X3_bars R (r_X4_quotient (100 * ((r_X3_valueOf R 0) - (G 2))) (r_X3_valueOf R 0))) p0 (r_X3_valueOf R 3)) (r_X3_bars R (r_X4_quotient (100 * ((r_X3_valueOf R 0) - (G 2))) (r_X3_valueOf R 0))) p0) else (G 2))) (if (r_X4_steamAt (r_X0_balance G sh (r_X3_bars R (r_X4_quotient (100 * ((r_X3_valueOf R 0) - (G 2))) (r_X3_valueOf R 0))) p0 (r_X3_valueOf R 3)) (r_X3_bars R (r_X4_quotient (100 * ((r_X3_valueOf R 0) - (G 2))) (r_X3_valueOf R 0))) p0) < (G 2) then (r_X4_steamAt (r_X0_balance G sh (r_X3_bars R (r_X4_quotient (100 * ((r_X3_valueOf R 0) - (G 2))) (r_X3_valueOf R 0))) p0 (r_X3_valueOf R 3)) (r_X3_bars R (r_X4_quotient (100 * ((r_X3_valueOf R 0) - (G 2))) (r_X3_valueOf R 0))) p0) else (G 2)) mi (G 5) (r_X0_balance G sh (r_X3_bars R (r_X4_quotient (100 * ((r_X3_valueOf R 0) - (G 2))) (r_X3_valueOf R 0))) p0 (r_X3_valueOf R 3)) (mg_X0_passMinute_101 G R sh p0 mi))) else (g8 (G 0) (G 1) ((G 2) - (if (r_X4_steamAt (r_X0_balance G sh (r_X3_bars R (r_X4_quotient (100 * ((r_X3_valueOf R 0) - (G 2))) (r_X3_valueOf R 0))) p0 (r_X3_valueOf R 3)) (r_X3_bars R (r_X4_quotient (100 * ((r_X3_valueOf R 0) - (G 2))) (r_X3_valueOf R 0))) p0) < (G 2) then (r_X4_steamAt (r_X0_balance G sh (r_X3_bars R (r_X4_quotient (100 * ((r_X3_valueOf R 0) - (G 2))) (r_X3_valueOf R 0))) p0 (r_X3_valueOf R 3)) (r_X3_bars R (r_X4_quotient (100 * ((r_X3_valueOf R 0) - (G 2))) (r_X3_valueOf R 0))) p0) else (G 2))) (if (r_X4_steamAt (r_X0_balance G sh (r_X3_bars R (r_X4_quotient (100 * ((r_X3_valueOf R 0) - (G 2))) (r_X3_valueOf R 0))) p0 (r_X3_valueOf R 3)) (r_X3_bars R (r_X4_quotient (100 * ((r_X3_valueOf R 0) - (G 2))) (r_X3_valueOf R 0))) p0) < (G 2) then (r_X4_steamAt (r_X0_balance G sh (r_X3_bars R (r_X4_quotient (100 * ((r_X3_valueOf R 0) - (G 2))) (r_X3_valueOf R 0))) p0 (r_X3_valueOf R 3)) (r_X3_bars R (r_X4_quotient (100 * ((r_X3_valueOf R 0) - (G 2))) (r_X3_valueOf R 0))) p0) else (G 2)) (G 4) (G 5) (r_X0_balance G sh (r_X3_bars R (r_X4_quotient (100 * ((r_X3_valueOf R 0) - (G 2))) (r_X3_valueOf R 0))) p0 (r_X3_valueOf R 3)) (mg_X0_passMinute_101 G R sh p0 mi))))
theorem ck_X0_passMinute : CK yX0_passMinute cX0_passMinute 7 none 4 := ⟨wd_2_29, wd_1_5, by decide, by decide, by decide +kernel⟩
set_option maxHeartbeats 4000000 in
set_option maxRecDepth 100000 in
theorem c_X0_passMinute (l : Launch) (D : va_G) (cI : ClassId) (ag : Nat) (G : Nat → Int32) (ar : Nat) (av : Nat) (R : Nat → Int32) (sh : Int32) (p0 : Int32) (mi : Int32) : MV l D cI yX0_passMinute cX0_passMinute 7 3 76 [.ref ag, .ref ar, .int sh, .int p0, .int mi] [gc ag G, rc ar av, ac cI av 11 R] [gc ag (q_X0_passMinute_G G R sh p0 mi), rc ar av, ac cI av 11 R] := by
  generalize ho_G : (q_X0_passMinute_G G R sh p0 mi) = o_G
  refine MV.mk (own := RX0) rfl (by decide) (Nat.le_of_ble_eq_true rfl) ?_
  intro p e s m args below meth c A Q C hD hend H locs ls hP hS hl
  have hx := C.1.1
  have hb := C.1.2.1
  have hl : lv_has ls 7 [(0, .ref ag), (1, .ref ar), (2, .int sh), (3, .int p0), (4, .int mi)] := hl
  refine lv_aload_n hx hb dX0_passMinute_0 rfl (lv_at hl 0 rfl) ?_
  refine kget (v := .int (G 2)) C hP igX0 rfl 2 (by decide) wd_1_49 0 rfl rfl dX0_passMinute_1 ?_
  refine lv_if_ne (tgt := 18) hx hb dX0_passMinute_4 (by decide) (fun c1 => ?_) (fun c1 => ?_)
  · refine lv_aload_n hx hb dX0_passMinute_18 rfl (lv_at hl 1 rfl) ?_
    refine lv_iconst (v := 0) hx hb dX0_passMinute_19 (by decide) ?_
    refine go_i (ws' := [gc ag G, rc ar av, ac cI av 11 R]) C (rn_V (As := [.int 0]) (rest := []) C (c_X3_valueOf l D cI ar av R 0 H.size) ck_X3_valueOf wd_1_183 wd_1_184 wd_2_30 ⟨Nat.le_of_ble_eq_true rfl, Nat.le_of_ble_eq_true rfl⟩ ⟨Nat.le_refl _, Nat.le_refl _⟩ (ci := 3) (q0 := 1) rfl rfl hP hD hS [1, 2] rfl rfl hl rfl (Nat.le_of_ble_eq_true rfl) dX0_passMinute_20) hP hD hS [1, 2] rfl rfl rfl (fun H locs hP hD hS => ?_)
    refine lv_istore (lv' := [(5, .int (r_X3_valueOf R 0)), (0, .ref ag), (1, .ref ar), (2, .int sh), (3, .int p0), (4, .int mi)]) hx hb dX0_passMinute_23 hl (by decide) rfl (fun ls hl => ?_)
    refine lv_aload_n hx hb dX0_passMinute_25 rfl (lv_at hl 2 rfl) ?_
    refine lv_bipush (v := 100) hx hb dX0_passMinute_26 (by decide) ?_
    refine lv_iload hx hb dX0_passMinute_28 (lv_at hl 0 rfl) ?_
    refine lv_aload_n hx hb dX0_passMinute_30 rfl (lv_at hl 1 rfl) ?_
    refine kget (v := .int (G 2)) C hP igX0 rfl 2 (by decide) wd_1_49 0 rfl rfl dX0_passMinute_31 ?_
    refine lv_isub hx hb dX0_passMinute_34 ?_
    refine lv_imul hx hb dX0_passMinute_35 ?_
    refine lv_iload hx hb dX0_passMinute_36 (lv_at hl 0 rfl) ?_
    refine go_i (ws' := [gc ag G, rc ar av, ac cI av 11 R]) C (rn_N (As := [.int (100 * ((r_X3_valueOf R 0) - (G 2))), .int (r_X3_valueOf R 0)]) (rest := [.ref ar]) C (c_X4_quotient l D cI (100 * ((r_X3_valueOf R 0) - (G 2))) (r_X3_valueOf R 0) H.size) ck_X4_quotient wd_1_209 C.2.2.1.1 ⟨Nat.le_of_ble_eq_true rfl, Nat.le_of_ble_eq_true rfl⟩ ⟨Nat.le_refl _, Nat.le_refl _⟩ hP hD hS [] rfl rfl hl rfl (Nat.le_of_ble_eq_true rfl) dX0_passMinute_38) hP hD hS [] rfl rfl rfl (fun H locs hP hD hS => ?_)
    refine go_i (ws' := [gc ag G, rc ar av, ac cI av 11 R]) C (rn_V (As := [.int (r_X4_quotient (100 * ((r_X3_valueOf R 0) - (G 2))) (r_X3_valueOf R 0))]) (rest := []) C (c_X3_bars l D cI ar av R (r_X4_quotient (100 * ((r_X3_valueOf R 0) - (G 2))) (r_X3_valueOf R 0)) H.size) ck_X3_bars wd_1_199 wd_1_200 wd_2_32 ⟨Nat.le_of_ble_eq_true rfl, Nat.le_of_ble_eq_true rfl⟩ ⟨Nat.le_refl _, Nat.le_refl _⟩ (ci := 3) (q0 := 1) rfl rfl hP hD hS [1, 2] rfl rfl hl rfl (Nat.le_of_ble_eq_true rfl) dX0_passMinute_41) hP hD hS [1, 2] rfl rfl rfl (fun H locs hP hD hS => ?_)
    refine lv_istore (lv' := [(6, .int (r_X3_bars R (r_X4_quotient (100 * ((r_X3_valueOf R 0) - (G 2))) (r_X3_valueOf R 0)))), (5, .int (r_X3_valueOf R 0)), (0, .ref ag), (1, .ref ar), (2, .int sh), (3, .int p0), (4, .int mi)]) hx hb dX0_passMinute_44 hl (by decide) rfl (fun ls hl => ?_)
    refine lv_aload_n hx hb dX0_passMinute_46 rfl (lv_at hl 2 rfl) ?_
    refine lv_aload_n hx hb dX0_passMinute_47 rfl (lv_at hl 2 rfl) ?_
    refine lv_iload_n hx hb dX0_passMinute_48 rfl (lv_at hl 4 rfl) ?_
    refine lv_iload hx hb dX0_passMinute_49 (lv_at hl 0 rfl) ?_
    refine lv_iload_n hx hb dX0_passMinute_51 rfl (lv_at hl 5 rfl) ?_
    refine lv_aload_n hx hb dX0_passMinute_52 rfl (lv_at hl 3 rfl) ?_
    refine lv_iconst (v := 3) hx hb dX0_passMinute_53 (by decide) ?_
    refine go_i (ws' := [gc ag G, rc ar av, ac cI av 11 R]) C (rn_V (As := [.int 3]) (rest := [.int p0, .int (r_X3_bars R (r_X4_quotient (100 * ((r_X3_valueOf R 0) - (G 2))) (r_X3_valueOf R 0))), .int sh, .ref ag, .ref ag]) C (c_X3_valueOf l D cI ar av R 3 H.size) ck_X3_valueOf wd_1_183 wd_1_184 wd_2_30 ⟨Nat.le_of_ble_eq_true rfl, Nat.le_of_ble_eq_true rfl⟩ ⟨Nat.le_refl _, Nat.le_refl _⟩ (ci := 3) (q0 := 1) rfl rfl hP hD hS [1, 2] rfl rfl hl rfl (Nat.le_of_ble_eq_true rfl) dX0_passMinute_54) hP hD hS [1, 2] rfl rfl rfl (fun H locs hP hD hS => ?_)
    refine go_i (ws' := [gc ag G, rc ar av, ac cI av 11 R]) C (rn_V (As := [.int sh, .int (r_X3_bars R (r_X4_quotient (100 * ((r_X3_valueOf R 0) - (G 2))) (r_X3_valueOf R 0))), .int p0, .int (r_X3_valueOf R 3)]) (rest := [.ref ag]) C (c_X0_balance l D cI ag G sh (r_X3_bars R (r_X4_quotient (100 * ((r_X3_valueOf R 0) - (G 2))) (r_X3_valueOf R 0))) p0 (r_X3_valueOf R 3) H.size) ck_X0_balance wd_2_35 wd_0_2 wd_2_33 ⟨Nat.le_of_ble_eq_true rfl, Nat.le_of_ble_eq_true rfl⟩ ⟨Nat.le_refl _, Nat.le_refl _⟩ (ci := 0) (q0 := 0) rfl rfl hP hD hS [0] rfl rfl hl rfl (Nat.le_of_ble_eq_true rfl) dX0_passMinute_57) hP hD hS [0] rfl rfl rfl (fun H locs hP hD hS => ?_)
    refine kput (ty := .int) (ws' := [gc ag (g8 (G 0) (G 1) (G 2) (G 3) (G 4) (G 5) (r_X0_balance G sh (r_X3_bars R (r_X4_quotient (100 * ((r_X3_valueOf R 0) - (G 2))) (r_X3_valueOf R 0))) p0 (r_X3_valueOf R 3)) (G 7)), rc ar av, ac cI av 11 R]) C hP hD hS igX0 tyX0_ok nmX0 rfl 6 (by decide) wd_1_57 rfl rfl rfl rfl 0 rfl (Nat.le_of_ble_eq_true rfl) rfl dX0_passMinute_60 (fun H locs hP hD hS => ?_)
    refine lv_aload_n hx hb dX0_passMinute_63 rfl (lv_at hl 2 rfl) ?_
    refine lv_aload_n hx hb dX0_passMinute_64 rfl (lv_at hl 2 rfl) ?_
    refine kget (v := .int (G 2)) C hP igX0 rfl 2 (by decide) wd_1_49 0 rfl rfl dX0_passMinute_65 ?_
    refine lv_aload_n hx hb dX0_passMinute_68 rfl (lv_at hl 2 rfl) ?_
    refine kget (v := .int (r_X0_balance G sh (r_X3_bars R (r_X4_quotient (100 * ((r_X3_valueOf R 0) - (G 2))) (r_X3_valueOf R 0))) p0 (r_X3_valueOf R 3))) C hP igX0 rfl 6 (by decide) wd_1_57 0 rfl rfl dX0_passMinute_69 ?_
    refine lv_iload hx hb dX0_passMinute_72 (lv_at hl 0 rfl) ?_
    refine lv_iload_n hx hb dX0_passMinute_74 rfl (lv_at hl 5 rfl) ?_
    refine go_i (ws' := [gc ag (g8 (G 0) (G 1) (G 2) (G 3) (G 4) (G 5) (r_X0_balance G sh (r_X3_bars R (r_X4_quotient (100 * ((r_X3_valueOf R 0) - (G 2))) (r_X3_valueOf R 0))) p0 (r_X3_valueOf R 3)) (G 7)), rc ar av, ac cI av 11 R]) C (rn_N (As := [.int (r_X0_balance G sh (r_X3_bars R (r_X4_quotient (100 * ((r_X3_valueOf R 0) - (G 2))) (r_X3_valueOf R 0))) p0 (r_X3_valueOf R 3)), .int (r_X3_bars R (r_X4_quotient (100 * ((r_X3_valueOf R 0) - (G 2))) (r_X3_valueOf R 0))), .int p0]) (rest := [.int (G 2), .ref ag]) C (c_X4_steamAt l D cI (r_X0_balance G sh (r_X3_bars R (r_X4_quotient (100 * ((r_X3_valueOf R 0) - (G 2))) (r_X3_valueOf R 0))) p0 (r_X3_valueOf R 3)) (r_X3_bars R (r_X4_quotient (100 * ((r_X3_valueOf R 0) - (G 2))) (r_X3_valueOf R 0))) p0 H.size) ck_X4_steamAt wd_1_203 C.2.2.1.2.1 ⟨Nat.le_of_ble_eq_true rfl, Nat.le_of_ble_eq_true rfl⟩ ⟨Nat.le_refl _, Nat.le_refl _⟩ hP hD hS [] rfl rfl hl rfl (Nat.le_of_ble_eq_true rfl) dX0_passMinute_75) hP hD hS [] rfl rfl rfl (fun H locs hP hD hS => ?_)
    refine kmin C hl wd_2_38 wd_2_39 wd_1_8 wd_2_40 ⟨by decide, Nat.le_of_ble_eq_true rfl⟩ ⟨Nat.le_refl _, Nat.le_refl _⟩ dX0_passMinute_78 ?_
    refine kput (ty := .int) (ws' := [gc ag (g8 (G 0) (G 1) (G 2) (if (r_X4_steamAt (r_X0_balance G sh (r_X3_bars R (r_X4_quotient (100 * ((r_X3_valueOf R 0) - (G 2))) (r_X3_valueOf R 0))) p0 (r_X3_valueOf R 3)) (r_X3_bars R (r_X4_quotient (100 * ((r_X3_valueOf R 0) - (G 2))) (r_X3_valueOf R 0))) p0) < (G 2) then (r_X4_steamAt (r_X0_balance G sh (r_X3_bars R (r_X4_quotient (100 * ((r_X3_valueOf R 0) - (G 2))) (r_X3_valueOf R 0))) p0 (r_X3_valueOf R 3)) (r_X3_bars R (r_X4_quotient (100 * ((r_X3_valueOf R 0) - (G 2))) (r_X3_valueOf R 0))) p0) else (G 2)) (G 4) (G 5) (r_X0_balance G sh (r_X3_bars R (r_X4_quotient (100 * ((r_X3_valueOf R 0) - (G 2))) (r_X3_valueOf R 0))) p0 (r_X3_valueOf R 3)) (G 7)), rc ar av, ac cI av 11 R]) C hP hD hS igX0 tyX0_ok nmX0 rfl 3 (by decide) wd_1_51 rfl rfl rfl rfl 0 rfl (Nat.le_of_ble_eq_true rfl) rfl dX0_passMinute_81 (fun H locs hP hD hS => ?_)
    refine lv_aload_n hx hb dX0_passMinute_84 rfl (lv_at hl 2 rfl) ?_
    refine lv_dup hx hb dX0_passMinute_85 rfl ?_
    refine kget (v := .int (G 2)) C hP igX0 rfl 2 (by decide) wd_1_49 0 rfl rfl dX0_passMinute_86 ?_
    refine lv_aload_n hx hb dX0_passMinute_89 rfl (lv_at hl 2 rfl) ?_
    refine kget (v := .int (if (r_X4_steamAt (r_X0_balance G sh (r_X3_bars R (r_X4_quotient (100 * ((r_X3_valueOf R 0) - (G 2))) (r_X3_valueOf R 0))) p0 (r_X3_valueOf R 3)) (r_X3_bars R (r_X4_quotient (100 * ((r_X3_valueOf R 0) - (G 2))) (r_X3_valueOf R 0))) p0) < (G 2) then (r_X4_steamAt (r_X0_balance G sh (r_X3_bars R (r_X4_quotient (100 * ((r_X3_valueOf R 0) - (G 2))) (r_X3_valueOf R 0))) p0 (r_X3_valueOf R 3)) (r_X3_bars R (r_X4_quotient (100 * ((r_X3_valueOf R 0) - (G 2))) (r_X3_valueOf R 0))) p0) else (G 2))) C hP igX0 rfl 3 (by decide) wd_1_51 0 rfl rfl dX0_passMinute_90 ?_
    refine lv_isub hx hb dX0_passMinute_93 ?_
    refine kput (ty := .int) (ws' := [gc ag (g8 (G 0) (G 1) ((G 2) - (if (r_X4_steamAt (r_X0_balance G sh (r_X3_bars R (r_X4_quotient (100 * ((r_X3_valueOf R 0) - (G 2))) (r_X3_valueOf R 0))) p0 (r_X3_valueOf R 3)) (r_X3_bars R (r_X4_quotient (100 * ((r_X3_valueOf R 0) - (G 2))) (r_X3_valueOf R 0))) p0) < (G 2) then (r_X4_steamAt (r_X0_balance G sh (r_X3_bars R (r_X4_quotient (100 * ((r_X3_valueOf R 0) - (G 2))) (r_X3_valueOf R 0))) p0 (r_X3_valueOf R 3)) (r_X3_bars R (r_X4_quotient (100 * ((r_X3_valueOf R 0) - (G 2))) (r_X3_valueOf R 0))) p0) else (G 2))) (if (r_X4_steamAt (r_X0_balance G sh (r_X3_bars R (r_X4_quotient (100 * ((r_X3_valueOf R 0) - (G 2))) (r_X3_valueOf R 0))) p0 (r_X3_valueOf R 3)) (r_X3_bars R (r_X4_quotient (100 * ((r_X3_valueOf R 0) - (G 2))) (r_X3_valueOf R 0))) p0) < (G 2) then (r_X4_steamAt (r_X0_balance G sh (r_X3_bars R (r_X4_quotient (100 * ((r_X3_valueOf R 0) - (G 2))) (r_X3_valueOf R 0))) p0 (r_X3_valueOf R 3)) (r_X3_bars R (r_X4_quotient (100 * ((r_X3_valueOf R 0) - (G 2))) (r_X3_valueOf R 0))) p0) else (G 2)) (G 4) (G 5) (r_X0_balance G sh (r_X3_bars R (r_X4_quotient (100 * ((r_X3_valueOf R 0) - (G 2))) (r_X3_valueOf R 0))) p0 (r_X3_valueOf R 3)) (G 7)), rc ar av, ac cI av 11 R]) C hP hD hS igX0 tyX0_ok nmX0 rfl 2 (by decide) wd_1_49 rfl rfl rfl rfl 0 rfl (Nat.le_of_ble_eq_true rfl) rfl dX0_passMinute_94 (fun H locs hP hD hS => ?_)
    refine lv_aload_n hx hb dX0_passMinute_97 rfl (lv_at hl 2 rfl) ?_
    refine kget (v := .int ((G 2) - (if (r_X4_steamAt (r_X0_balance G sh (r_X3_bars R (r_X4_quotient (100 * ((r_X3_valueOf R 0) - (G 2))) (r_X3_valueOf R 0))) p0 (r_X3_valueOf R 3)) (r_X3_bars R (r_X4_quotient (100 * ((r_X3_valueOf R 0) - (G 2))) (r_X3_valueOf R 0))) p0) < (G 2) then (r_X4_steamAt (r_X0_balance G sh (r_X3_bars R (r_X4_quotient (100 * ((r_X3_valueOf R 0) - (G 2))) (r_X3_valueOf R 0))) p0 (r_X3_valueOf R 3)) (r_X3_bars R (r_X4_quotient (100 * ((r_X3_valueOf R 0) - (G 2))) (r_X3_valueOf R 0))) p0) else (G 2)))) C hP igX0 rfl 2 (by decide) wd_1_49 0 rfl rfl dX0_passMinute_98 ?_
    have j110 : ∀ (ls : Array Slot) (H : Heap) (locs : List Loc), lv_has ls 7 [(0, .ref ag), (1, .ref ar), (2, .int sh), (3, .int p0), (4, .int mi), (5, .int (r_X3_valueOf R 0)), (6, .int (r_X3_bars R (r_X4_quotient (100 * ((r_X3_valueOf R 0) - (G 2))) (r_X3_valueOf R 0))))] → va_P D vwCl [gc ag (g8 (G 0) (G 1) ((G 2) - (if (r_X4_steamAt (r_X0_balance G sh (r_X3_bars R (r_X4_quotient (100 * ((r_X3_valueOf R 0) - (G 2))) (r_X3_valueOf R 0))) p0 (r_X3_valueOf R 3)) (r_X3_bars R (r_X4_quotient (100 * ((r_X3_valueOf R 0) - (G 2))) (r_X3_valueOf R 0))) p0) < (G 2) then (r_X4_steamAt (r_X0_balance G sh (r_X3_bars R (r_X4_quotient (100 * ((r_X3_valueOf R 0) - (G 2))) (r_X3_valueOf R 0))) p0 (r_X3_valueOf R 3)) (r_X3_bars R (r_X4_quotient (100 * ((r_X3_valueOf R 0) - (G 2))) (r_X3_valueOf R 0))) p0) else (G 2))) (if (r_X4_steamAt (r_X0_balance G sh (r_X3_bars R (r_X4_quotient (100 * ((r_X3_valueOf R 0) - (G 2))) (r_X3_valueOf R 0))) p0 (r_X3_valueOf R 3)) (r_X3_bars R (r_X4_quotient (100 * ((r_X3_valueOf R 0) - (G 2))) (r_X3_valueOf R 0))) p0) < (G 2) then (r_X4_steamAt (r_X0_balance G sh (r_X3_bars R (r_X4_quotient (100 * ((r_X3_valueOf R 0) - (G 2))) (r_X3_valueOf R 0))) p0 (r_X3_valueOf R 3)) (r_X3_bars R (r_X4_quotient (100 * ((r_X3_valueOf R 0) - (G 2))) (r_X3_valueOf R 0))) p0) else (G 2)) (G 4) (G 5) (r_X0_balance G sh (r_X3_bars R (r_X4_quotient (100 * ((r_X3_valueOf R 0) - (G 2))) (r_X3_valueOf R 0))) p0 (r_X3_valueOf R 3)) (mg_X0_passMinute_101 G R sh p0 mi)), rc ar av, ac cI av 11 R] H → va_D A [gc ag (g8 (G 0) (G 1) ((G 2) - (if (r_X4_steamAt (r_X0_balance G sh (r_X3_bars R (r_X4_quotient (100 * ((r_X3_valueOf R 0) - (G 2))) (r_X3_valueOf R 0))) p0 (r_X3_valueOf R 3)) (r_X3_bars R (r_X4_quotient (100 * ((r_X3_valueOf R 0) - (G 2))) (r_X3_valueOf R 0))) p0) < (G 2) then (r_X4_steamAt (r_X0_balance G sh (r_X3_bars R (r_X4_quotient (100 * ((r_X3_valueOf R 0) - (G 2))) (r_X3_valueOf R 0))) p0 (r_X3_valueOf R 3)) (r_X3_bars R (r_X4_quotient (100 * ((r_X3_valueOf R 0) - (G 2))) (r_X3_valueOf R 0))) p0) else (G 2))) (if (r_X4_steamAt (r_X0_balance G sh (r_X3_bars R (r_X4_quotient (100 * ((r_X3_valueOf R 0) - (G 2))) (r_X3_valueOf R 0))) p0 (r_X3_valueOf R 3)) (r_X3_bars R (r_X4_quotient (100 * ((r_X3_valueOf R 0) - (G 2))) (r_X3_valueOf R 0))) p0) < (G 2) then (r_X4_steamAt (r_X0_balance G sh (r_X3_bars R (r_X4_quotient (100 * ((r_X3_valueOf R 0) - (G 2))) (r_X3_valueOf R 0))) p0 (r_X3_valueOf R 3)) (r_X3_bars R (r_X4_quotient (100 * ((r_X3_valueOf R 0) - (G 2))) (r_X3_valueOf R 0))) p0) else (G 2)) (G 4) (G 5) (r_X0_balance G sh (r_X3_bars R (r_X4_quotient (100 * ((r_X3_valueOf R 0) - (G 2))) (r_X3_valueOf R 0))) p0 (r_X3_valueOf R 3)) (mg_X0_passMinute_101 G R sh p0 mi)), rc ar av, ac cI av 11 R] → va_S A s.heap H locs → W p l e (RM 3 76) s m args below meth c H locs 0 0 Q (F0 m 110 ls []) := by
      intro ls H locs hl hP hD hS
      refine lv_aload_n hx hb dX0_passMinute_110 rfl (lv_at hl 0 rfl) ?_
      refine kget (v := .int (G 4)) C hP igX0 rfl 4 (by decide) wd_1_53 0 rfl rfl dX0_passMinute_111 ?_
      refine lv_bipush (v := (-6)) hx hb dX0_passMinute_114 (by decide) ?_
      refine lv_icmp_ne (tgt := 138) hx hb dX0_passMinute_116 (by decide) (fun c3 => ?_) (fun c3 => ?_)
      · exact hend _ _ _ _ (by rw [← ho_G, q_X0_passMinute_G, if_neg c1, if_neg c3]; exact hP) hS dX0_passMinute_138
      · refine lv_aload_n hx hb dX0_passMinute_119 rfl (lv_at hl 0 rfl) ?_
        refine kget (v := .int (r_X0_balance G sh (r_X3_bars R (r_X4_quotient (100 * ((r_X3_valueOf R 0) - (G 2))) (r_X3_valueOf R 0))) p0 (r_X3_valueOf R 3))) C hP igX0 rfl 6 (by decide) wd_1_57 0 rfl rfl dX0_passMinute_120 ?_
        refine lv_aload_n hx hb dX0_passMinute_123 rfl (lv_at hl 1 rfl) ?_
        refine lv_bipush (v := 6) hx hb dX0_passMinute_124 (by decide) ?_
        refine go_i (ws' := [gc ag (g8 (G 0) (G 1) ((G 2) - (if (r_X4_steamAt (r_X0_balance G sh (r_X3_bars R (r_X4_quotient (100 * ((r_X3_valueOf R 0) - (G 2))) (r_X3_valueOf R 0))) p0 (r_X3_valueOf R 3)) (r_X3_bars R (r_X4_quotient (100 * ((r_X3_valueOf R 0) - (G 2))) (r_X3_valueOf R 0))) p0) < (G 2) then (r_X4_steamAt (r_X0_balance G sh (r_X3_bars R (r_X4_quotient (100 * ((r_X3_valueOf R 0) - (G 2))) (r_X3_valueOf R 0))) p0 (r_X3_valueOf R 3)) (r_X3_bars R (r_X4_quotient (100 * ((r_X3_valueOf R 0) - (G 2))) (r_X3_valueOf R 0))) p0) else (G 2))) (if (r_X4_steamAt (r_X0_balance G sh (r_X3_bars R (r_X4_quotient (100 * ((r_X3_valueOf R 0) - (G 2))) (r_X3_valueOf R 0))) p0 (r_X3_valueOf R 3)) (r_X3_bars R (r_X4_quotient (100 * ((r_X3_valueOf R 0) - (G 2))) (r_X3_valueOf R 0))) p0) < (G 2) then (r_X4_steamAt (r_X0_balance G sh (r_X3_bars R (r_X4_quotient (100 * ((r_X3_valueOf R 0) - (G 2))) (r_X3_valueOf R 0))) p0 (r_X3_valueOf R 3)) (r_X3_bars R (r_X4_quotient (100 * ((r_X3_valueOf R 0) - (G 2))) (r_X3_valueOf R 0))) p0) else (G 2)) (G 4) (G 5) (r_X0_balance G sh (r_X3_bars R (r_X4_quotient (100 * ((r_X3_valueOf R 0) - (G 2))) (r_X3_valueOf R 0))) p0 (r_X3_valueOf R 3)) (mg_X0_passMinute_101 G R sh p0 mi)), rc ar av, ac cI av 11 R]) C (rn_V (As := [.int 6]) (rest := [.int (r_X0_balance G sh (r_X3_bars R (r_X4_quotient (100 * ((r_X3_valueOf R 0) - (G 2))) (r_X3_valueOf R 0))) p0 (r_X3_valueOf R 3))]) C (c_X3_valueOf l D cI ar av R 6 H.size) ck_X3_valueOf wd_1_183 wd_1_184 wd_2_30 ⟨Nat.le_of_ble_eq_true rfl, Nat.le_of_ble_eq_true rfl⟩ ⟨Nat.le_refl _, Nat.le_refl _⟩ (ci := 3) (q0 := 1) rfl rfl hP hD hS [1, 2] rfl rfl hl rfl (Nat.le_of_ble_eq_true rfl) dX0_passMinute_126) hP hD hS [1, 2] rfl rfl rfl (fun H locs hP hD hS => ?_)
        refine lv_icmp_le (tgt := 138) hx hb dX0_passMinute_129 (by decide) (fun c4 => ?_) (fun c4 => ?_)
        · exact hend _ _ _ _ (by rw [← ho_G, q_X0_passMinute_G, if_neg c1, if_pos c3, if_pos c4]; exact hP) hS dX0_passMinute_138
        · refine lv_aload_n hx hb dX0_passMinute_132 rfl (lv_at hl 0 rfl) ?_
          refine lv_iload hx hb dX0_passMinute_133 (lv_at hl 4 rfl) ?_
          refine kput (ty := .int) (ws' := [gc ag (g8 (G 0) (G 1) ((G 2) - (if (r_X4_steamAt (r_X0_balance G sh (r_X3_bars R (r_X4_quotient (100 * ((r_X3_valueOf R 0) - (G 2))) (r_X3_valueOf R 0))) p0 (r_X3_valueOf R 3)) (r_X3_bars R (r_X4_quotient (100 * ((r_X3_valueOf R 0) - (G 2))) (r_X3_valueOf R 0))) p0) < (G 2) then (r_X4_steamAt (r_X0_balance G sh (r_X3_bars R (r_X4_quotient (100 * ((r_X3_valueOf R 0) - (G 2))) (r_X3_valueOf R 0))) p0 (r_X3_valueOf R 3)) (r_X3_bars R (r_X4_quotient (100 * ((r_X3_valueOf R 0) - (G 2))) (r_X3_valueOf R 0))) p0) else (G 2))) (if (r_X4_steamAt (r_X0_balance G sh (r_X3_bars R (r_X4_quotient (100 * ((r_X3_valueOf R 0) - (G 2))) (r_X3_valueOf R 0))) p0 (r_X3_valueOf R 3)) (r_X3_bars R (r_X4_quotient (100 * ((r_X3_valueOf R 0) - (G 2))) (r_X3_valueOf R 0))) p0) < (G 2) then (r_X4_steamAt (r_X0_balance G sh (r_X3_bars R (r_X4_quotient (100 * ((r_X3_valueOf R 0) - (G 2))) (r_X3_valueOf R 0))) p0 (r_X3_valueOf R 3)) (r_X3_bars R (r_X4_quotient (100 * ((r_X3_valueOf R 0) - (G 2))) (r_X3_valueOf R 0))) p0) else (G 2)) mi (G 5) (r_X0_balance G sh (r_X3_bars R (r_X4_quotient (100 * ((r_X3_valueOf R 0) - (G 2))) (r_X3_valueOf R 0))) p0 (r_X3_valueOf R 3)) (mg_X0_passMinute_101 G R sh p0 mi)), rc ar av, ac cI av 11 R]) C hP hD hS igX0 tyX0_ok nmX0 rfl 4 (by decide) wd_1_53 rfl rfl rfl rfl 0 rfl (Nat.le_of_ble_eq_true rfl) rfl dX0_passMinute_135 (fun H locs hP hD hS => ?_)
          exact hend _ _ _ _ (by rw [← ho_G, q_X0_passMinute_G, if_neg c1, if_pos c3, if_neg c4]; exact hP) hS dX0_passMinute_138
    refine lv_if_ne (tgt := 110) hx hb dX0_passMinute_101 (by decide) (fun c2 => ?_) (fun c2 => ?_)
    · have e_mg_X0_passMinute_101 : (mg_X0_passMinute_101 G R sh p0 mi) = (G 7) := by rw [mg_X0_passMinute_101, if_neg c2]
      have jj := j110
      rw [e_mg_X0_passMinute_101] at jj
      exact jj ls H locs (lv_sub hl [2, 3, 4, 5, 6, 1, 0] rfl) hP hD hS
    · refine lv_aload_n hx hb dX0_passMinute_104 rfl (lv_at hl 2 rfl) ?_
      refine lv_iload hx hb dX0_passMinute_105 (lv_at hl 6 rfl) ?_
      refine kput (ty := .int) (ws' := [gc ag (g8 (G 0) (G 1) ((G 2) - (if (r_X4_steamAt (r_X0_balance G sh (r_X3_bars R (r_X4_quotient (100 * ((r_X3_valueOf R 0) - (G 2))) (r_X3_valueOf R 0))) p0 (r_X3_valueOf R 3)) (r_X3_bars R (r_X4_quotient (100 * ((r_X3_valueOf R 0) - (G 2))) (r_X3_valueOf R 0))) p0) < (G 2) then (r_X4_steamAt (r_X0_balance G sh (r_X3_bars R (r_X4_quotient (100 * ((r_X3_valueOf R 0) - (G 2))) (r_X3_valueOf R 0))) p0 (r_X3_valueOf R 3)) (r_X3_bars R (r_X4_quotient (100 * ((r_X3_valueOf R 0) - (G 2))) (r_X3_valueOf R 0))) p0) else (G 2))) (if (r_X4_steamAt (r_X0_balance G sh (r_X3_bars R (r_X4_quotient (100 * ((r_X3_valueOf R 0) - (G 2))) (r_X3_valueOf R 0))) p0 (r_X3_valueOf R 3)) (r_X3_bars R (r_X4_quotient (100 * ((r_X3_valueOf R 0) - (G 2))) (r_X3_valueOf R 0))) p0) < (G 2) then (r_X4_steamAt (r_X0_balance G sh (r_X3_bars R (r_X4_quotient (100 * ((r_X3_valueOf R 0) - (G 2))) (r_X3_valueOf R 0))) p0 (r_X3_valueOf R 3)) (r_X3_bars R (r_X4_quotient (100 * ((r_X3_valueOf R 0) - (G 2))) (r_X3_valueOf R 0))) p0) else (G 2)) (G 4) (G 5) (r_X0_balance G sh (r_X3_bars R (r_X4_quotient (100 * ((r_X3_valueOf R 0) - (G 2))) (r_X3_valueOf R 0))) p0 (r_X3_valueOf R 3)) mi), rc ar av, ac cI av 11 R]) C hP hD hS igX0 tyX0_ok nmX0 rfl 7 (by decide) wd_1_58 rfl rfl rfl rfl 0 rfl (Nat.le_of_ble_eq_true rfl) rfl dX0_passMinute_107 (fun H locs hP hD hS => ?_)
      have e_mg_X0_passMinute_101 : (mg_X0_passMinute_101 G R sh p0 mi) = mi := by rw [mg_X0_passMinute_101, if_pos c2]
      have jj := j110
      rw [e_mg_X0_passMinute_101] at jj
      exact jj ls H locs (lv_sub hl [2, 3, 4, 5, 6, 1, 0] rfl) hP hD hS
  · refine lv_aload_n hx hb dX0_passMinute_7 rfl (lv_at hl 0 rfl) ?_
    refine lv_iload_n hx hb dX0_passMinute_8 rfl (lv_at hl 2 rfl) ?_
    refine kput (ty := .int) (ws' := [gc ag (g8 (G 0) (G 1) (G 2) (G 3) (G 4) (G 5) sh (G 7)), rc ar av, ac cI av 11 R]) C hP hD hS igX0 tyX0_ok nmX0 rfl 6 (by decide) wd_1_57 rfl rfl rfl rfl 0 rfl (Nat.le_of_ble_eq_true rfl) rfl dX0_passMinute_9 (fun H locs hP hD hS => ?_)
    refine lv_aload_n hx hb dX0_passMinute_12 rfl (lv_at hl 0 rfl) ?_
    refine lv_iconst (v := 0) hx hb dX0_passMinute_13 (by decide) ?_
    refine kput (ty := .int) (ws' := [gc ag (g8 (G 0) (G 1) (G 2) 0 (G 4) (G 5) sh (G 7)), rc ar av, ac cI av 11 R]) C hP hD hS igX0 tyX0_ok nmX0 rfl 3 (by decide) wd_1_51 rfl rfl rfl rfl 0 rfl (Nat.le_of_ble_eq_true rfl) rfl dX0_passMinute_14 (fun H locs hP hD hS => ?_)
    exact hend _ _ _ _ (by rw [← ho_G, q_X0_passMinute_G, if_pos c1]; exact hP) hS dX0_passMinute_17
end
section
def mg_X2_vialsWithIce_7 (G : Nat → Int32) : Int32 := (if (G 2) ≤ 0 then 0 else (G 0))
def mg_X2_vialsWithIce_28 (I : Nat → Int32) : Int32 := (if (I 2) ≤ 0 then 0 else (I 0))
def r_X2_vialsWithIce (G : Nat → Int32) (I : Nat → Int32) : Int32 := ((mg_X2_vialsWithIce_7 G) + (mg_X2_vialsWithIce_28 I))
theorem ck_X2_vialsWithIce : CK yX2_vialsWithIce cX2_vialsWithIce 1 (some .int) 0 := ⟨wd_2_9, wd_1_4, by decide, by decide, by decide +kernel⟩
set_option maxHeartbeats 4000000 in
set_option maxRecDepth 100000 in
theorem c_X2_vialsWithIce (l : Launch) (D : va_G) (cI : ClassId) (al : Nat) (ag : Nat) (ai : Nat) (L : Nat → Int32) (G : Nat → Int32) (I : Nat → Int32) : MI l D cI yX2_vialsWithIce cX2_vialsWithIce 1 (some .int) 0 0 [.ref al] [lc al ag ai L, gc ag G, gc ai I] (r_X2_vialsWithIce G I) [lc al ag ai L, gc ag G, gc ai I] := by
  generalize hr : (r_X2_vialsWithIce G I) = r
  refine MI.mk (own := RX2) rfl (by decide) rfl (Nat.le_of_ble_eq_true rfl) ?_
  intro p e s m args below meth c A Q C hD hend H locs ls hP hS hl
  have hx := C.1.1
  have hb := C.1.2.1
  have hl : lv_has ls 1 [(0, .ref al)] := hl
  refine lv_aload_n hx hb dX2_vialsWithIce_0 rfl (lv_at hl 0 rfl) ?_
  refine kget (v := .ref ag) C hP igX2 rfl 0 (by decide) wd_1_76 0 rfl rfl dX2_vialsWithIce_1 ?_
  refine kget (v := .int (G 2)) C hP igX0 rfl 2 (by decide) wd_1_50 1 rfl rfl dX2_vialsWithIce_4 ?_
  have j21 : ∀ (ls : Array Slot) (H : Heap) (locs : List Loc), lv_has ls 1 [(0, .ref al)] → va_P D vwCl [lc al ag ai L, gc ag G, gc ai I] H → va_D A [lc al ag ai L, gc ag G, gc ai I] → va_S A s.heap H locs → W p l e (RM 0 0) s m args below meth c H locs 0 0 Q (F0 m 21 ls [.int (mg_X2_vialsWithIce_7 G)]) := by
    intro ls H locs hl hP hD hS
    refine lv_aload_n hx hb dX2_vialsWithIce_21 rfl (lv_at hl 0 rfl) ?_
    refine kget (v := .ref ai) C hP igX2 rfl 1 (by decide) wd_1_78 0 rfl rfl dX2_vialsWithIce_22 ?_
    refine kget (v := .int (I 2)) C hP igX0 rfl 2 (by decide) wd_1_50 2 rfl rfl dX2_vialsWithIce_25 ?_
    have j42 : ∀ (ls : Array Slot) (H : Heap) (locs : List Loc), lv_has ls 1 [(0, .ref al)] → va_P D vwCl [lc al ag ai L, gc ag G, gc ai I] H → va_D A [lc al ag ai L, gc ag G, gc ai I] → va_S A s.heap H locs → W p l e (RM 0 0) s m args below meth c H locs 0 0 Q (F0 m 42 ls [.int (mg_X2_vialsWithIce_28 I), .int (mg_X2_vialsWithIce_7 G)]) := by
      intro ls H locs hl hP hD hS
      refine lv_iadd hx hb dX2_vialsWithIce_42 ?_
      exact hend _ _ _ _ _ (by rw [← hr, r_X2_vialsWithIce]) hP hS dX2_vialsWithIce_43
    refine lv_if_le (tgt := 41) hx hb dX2_vialsWithIce_28 (by decide) (fun c2 => ?_) (fun c2 => ?_)
    · refine lv_iconst (v := 0) hx hb dX2_vialsWithIce_41 (by decide) ?_
      have e_mg_X2_vialsWithIce_28 : (mg_X2_vialsWithIce_28 I) = 0 := by rw [mg_X2_vialsWithIce_28, if_pos c2]
      have jj := j42
      rw [e_mg_X2_vialsWithIce_28] at jj
      exact jj ls H locs (lv_sub hl [0] rfl) hP hD hS
    · refine lv_aload_n hx hb dX2_vialsWithIce_31 rfl (lv_at hl 0 rfl) ?_
      refine kget (v := .ref ai) C hP igX2 rfl 1 (by decide) wd_1_78 0 rfl rfl dX2_vialsWithIce_32 ?_
      refine kget (v := .int (I 0)) C hP igX0 rfl 0 (by decide) wd_1_46 2 rfl rfl dX2_vialsWithIce_35 ?_
      refine lv_goto (tgt := 42) hx hb dX2_vialsWithIce_38 (by decide) ?_
      have e_mg_X2_vialsWithIce_28 : (mg_X2_vialsWithIce_28 I) = (I 0) := by rw [mg_X2_vialsWithIce_28, if_neg c2]
      have jj := j42
      rw [e_mg_X2_vialsWithIce_28] at jj
      exact jj ls H locs (lv_sub hl [0] rfl) hP hD hS
  refine lv_if_le (tgt := 20) hx hb dX2_vialsWithIce_7 (by decide) (fun c1 => ?_) (fun c1 => ?_)
  · refine lv_iconst (v := 0) hx hb dX2_vialsWithIce_20 (by decide) ?_
    have e_mg_X2_vialsWithIce_7 : (mg_X2_vialsWithIce_7 G) = 0 := by rw [mg_X2_vialsWithIce_7, if_pos c1]
    have jj := j21
    rw [e_mg_X2_vialsWithIce_7] at jj
    exact jj ls H locs (lv_sub hl [0] rfl) hP hD hS
  · refine lv_aload_n hx hb dX2_vialsWithIce_10 rfl (lv_at hl 0 rfl) ?_
    refine kget (v := .ref ag) C hP igX2 rfl 0 (by decide) wd_1_76 0 rfl rfl dX2_vialsWithIce_11 ?_
    refine kget (v := .int (G 0)) C hP igX0 rfl 0 (by decide) wd_1_46 1 rfl rfl dX2_vialsWithIce_14 ?_
    refine lv_goto (tgt := 21) hx hb dX2_vialsWithIce_17 (by decide) ?_
    have e_mg_X2_vialsWithIce_7 : (mg_X2_vialsWithIce_7 G) = (G 0) := by rw [mg_X2_vialsWithIce_7, if_neg c1]
    have jj := j21
    rw [e_mg_X2_vialsWithIce_7] at jj
    exact jj ls H locs (lv_sub hl [0] rfl) hP hD hS
def mg_X2_fallenVials_9 (G : Nat → Int32) : Int32 := (if (G 4) = (-6) then 0 else (G 0))
def mg_X2_fallenVials_32 (I : Nat → Int32) : Int32 := (if (I 4) = (-6) then 0 else (I 0))
def r_X2_fallenVials (G : Nat → Int32) (I : Nat → Int32) : Int32 := ((mg_X2_fallenVials_9 G) + (mg_X2_fallenVials_32 I))
theorem ck_X2_fallenVials : CK yX2_fallenVials cX2_fallenVials 1 (some .int) 0 := ⟨wd_2_70, wd_1_4, by decide, by decide, by decide +kernel⟩
set_option maxHeartbeats 4000000 in
set_option maxRecDepth 100000 in
theorem c_X2_fallenVials (l : Launch) (D : va_G) (cI : ClassId) (al : Nat) (ag : Nat) (ai : Nat) (L : Nat → Int32) (G : Nat → Int32) (I : Nat → Int32) : MI l D cI yX2_fallenVials cX2_fallenVials 1 (some .int) 0 0 [.ref al] [lc al ag ai L, gc ag G, gc ai I] (r_X2_fallenVials G I) [lc al ag ai L, gc ag G, gc ai I] := by
  generalize hr : (r_X2_fallenVials G I) = r
  refine MI.mk (own := RX2) rfl (by decide) rfl (Nat.le_of_ble_eq_true rfl) ?_
  intro p e s m args below meth c A Q C hD hend H locs ls hP hS hl
  have hx := C.1.1
  have hb := C.1.2.1
  have hl : lv_has ls 1 [(0, .ref al)] := hl
  refine lv_aload_n hx hb dX2_fallenVials_0 rfl (lv_at hl 0 rfl) ?_
  refine kget (v := .ref ag) C hP igX2 rfl 0 (by decide) wd_1_76 0 rfl rfl dX2_fallenVials_1 ?_
  refine kget (v := .int (G 4)) C hP igX0 rfl 4 (by decide) wd_1_54 1 rfl rfl dX2_fallenVials_4 ?_
  refine lv_bipush (v := (-6)) hx hb dX2_fallenVials_7 (by decide) ?_
  have j23 : ∀ (ls : Array Slot) (H : Heap) (locs : List Loc), lv_has ls 1 [(0, .ref al)] → va_P D vwCl [lc al ag ai L, gc ag G, gc ai I] H → va_D A [lc al ag ai L, gc ag G, gc ai I] → va_S A s.heap H locs → W p l e (RM 0 0) s m args below meth c H locs 0 0 Q (F0 m 23 ls [.int (mg_X2_fallenVials_9 G)]) := by
    intro ls H locs hl hP hD hS
    refine lv_aload_n hx hb dX2_fallenVials_23 rfl (lv_at hl 0 rfl) ?_
    refine kget (v := .ref ai) C hP igX2 rfl 1 (by decide) wd_1_78 0 rfl rfl dX2_fallenVials_24 ?_
    refine kget (v := .int (I 4)) C hP igX0 rfl 4 (by decide) wd_1_54 2 rfl rfl dX2_fallenVials_27 ?_
    refine lv_bipush (v := (-6)) hx hb dX2_fallenVials_30 (by decide) ?_
    have j46 : ∀ (ls : Array Slot) (H : Heap) (locs : List Loc), lv_has ls 1 [(0, .ref al)] → va_P D vwCl [lc al ag ai L, gc ag G, gc ai I] H → va_D A [lc al ag ai L, gc ag G, gc ai I] → va_S A s.heap H locs → W p l e (RM 0 0) s m args below meth c H locs 0 0 Q (F0 m 46 ls [.int (mg_X2_fallenVials_32 I), .int (mg_X2_fallenVials_9 G)]) := by
      intro ls H locs hl hP hD hS
      refine lv_iadd hx hb dX2_fallenVials_46 ?_
      exact hend _ _ _ _ _ (by rw [← hr, r_X2_fallenVials]) hP hS dX2_fallenVials_47
    refine lv_icmp_eq (tgt := 45) hx hb dX2_fallenVials_32 (by decide) (fun c2 => ?_) (fun c2 => ?_)
    · refine lv_iconst (v := 0) hx hb dX2_fallenVials_45 (by decide) ?_
      have e_mg_X2_fallenVials_32 : (mg_X2_fallenVials_32 I) = 0 := by rw [mg_X2_fallenVials_32, if_pos c2]
      have jj := j46
      rw [e_mg_X2_fallenVials_32] at jj
      exact jj ls H locs (lv_sub hl [0] rfl) hP hD hS
    · refine lv_aload_n hx hb dX2_fallenVials_35 rfl (lv_at hl 0 rfl) ?_
      refine kget (v := .ref ai) C hP igX2 rfl 1 (by decide) wd_1_78 0 rfl rfl dX2_fallenVials_36 ?_
      refine kget (v := .int (I 0)) C hP igX0 rfl 0 (by decide) wd_1_46 2 rfl rfl dX2_fallenVials_39 ?_
      refine lv_goto (tgt := 46) hx hb dX2_fallenVials_42 (by decide) ?_
      have e_mg_X2_fallenVials_32 : (mg_X2_fallenVials_32 I) = (I 0) := by rw [mg_X2_fallenVials_32, if_neg c2]
      have jj := j46
      rw [e_mg_X2_fallenVials_32] at jj
      exact jj ls H locs (lv_sub hl [0] rfl) hP hD hS
  refine lv_icmp_eq (tgt := 22) hx hb dX2_fallenVials_9 (by decide) (fun c1 => ?_) (fun c1 => ?_)
  · refine lv_iconst (v := 0) hx hb dX2_fallenVials_22 (by decide) ?_
    have e_mg_X2_fallenVials_9 : (mg_X2_fallenVials_9 G) = 0 := by rw [mg_X2_fallenVials_9, if_pos c1]
    have jj := j23
    rw [e_mg_X2_fallenVials_9] at jj
    exact jj ls H locs (lv_sub hl [0] rfl) hP hD hS
  · refine lv_aload_n hx hb dX2_fallenVials_12 rfl (lv_at hl 0 rfl) ?_
    refine kget (v := .ref ag) C hP igX2 rfl 0 (by decide) wd_1_76 0 rfl rfl dX2_fallenVials_13 ?_
    refine kget (v := .int (G 0)) C hP igX0 rfl 0 (by decide) wd_1_46 1 rfl rfl dX2_fallenVials_16 ?_
    refine lv_goto (tgt := 23) hx hb dX2_fallenVials_19 (by decide) ?_
    have e_mg_X2_fallenVials_9 : (mg_X2_fallenVials_9 G) = (G 0) := by rw [mg_X2_fallenVials_9, if_neg c1]
    have jj := j23
    rw [e_mg_X2_fallenVials_9] at jj
    exact jj ls H locs (lv_sub hl [0] rfl) hP hD hS
def mg_X2_firstToFall_9 (G : Nat → Int32) (I : Nat → Int32) : Int32 := (if (I 4) = (-6) then 0 else (if (G 4) = (-6) then 1 else (if (G 4) ≤ (I 4) then 0 else 1)))
def r_X2_firstToFall (ag : Nat) (ai : Nat) (G : Nat → Int32) (I : Nat → Int32) : Nat := (if (mg_X2_firstToFall_9 G I) = 0 then ag else ai)
theorem ck_X2_firstToFall : CK yX2_firstToFall cX2_firstToFall 2 (some (.object "ColdDryer$Group")) 0 := ⟨wd_2_113, wd_1_4, by decide, by decide, by decide +kernel⟩
set_option maxHeartbeats 4000000 in
set_option maxRecDepth 100000 in
theorem c_X2_firstToFall (l : Launch) (D : va_G) (cI : ClassId) (al : Nat) (ag : Nat) (ai : Nat) (L : Nat → Int32) (G : Nat → Int32) (I : Nat → Int32) : MR l D cI yX2_firstToFall cX2_firstToFall 2 (some (.object "ColdDryer$Group")) 0 0 [.ref al] [lc al ag ai L, gc ag G, gc ai I] (r_X2_firstToFall ag ai G I) [lc al ag ai L, gc ag G, gc ai I] := by
  generalize hr : (r_X2_firstToFall ag ai G I) = r
  refine MR.mk (own := RX2) rfl (by decide) (Nat.le_of_ble_eq_true rfl) ?_
  intro p e s m args below meth c A Q C hD hend H locs ls hP hS hl
  have hx := C.1.1
  have hb := C.1.2.1
  have hl : lv_has ls 2 [(0, .ref al)] := hl
  refine lv_aload_n hx hb dX2_firstToFall_0 rfl (lv_at hl 0 rfl) ?_
  refine kget (v := .ref ai) C hP igX2 rfl 1 (by decide) wd_1_78 0 rfl rfl dX2_firstToFall_1 ?_
  refine kget (v := .int (I 4)) C hP igX0 rfl 4 (by decide) wd_1_54 2 rfl rfl dX2_firstToFall_4 ?_
  refine lv_bipush (v := (-6)) hx hb dX2_firstToFall_7 (by decide) ?_
  have j46 : ∀ (ls : Array Slot) (H : Heap) (locs : List Loc), lv_has ls 2 [(0, .ref al)] → va_P D vwCl [lc al ag ai L, gc ag G, gc ai I] H → va_D A [lc al ag ai L, gc ag G, gc ai I] → va_S A s.heap H locs → W p l e (RM 0 0) s m args below meth c H locs 0 0 Q (F0 m 46 ls [.int (mg_X2_firstToFall_9 G I)]) := by
    intro ls H locs hl hP hD hS
    refine lv_istore_n (lv' := [(1, .int (mg_X2_firstToFall_9 G I)), (0, .ref al)]) hx hb dX2_firstToFall_46 rfl hl (by decide) rfl (fun ls hl => ?_)
    refine lv_iload_n hx hb dX2_firstToFall_47 rfl (lv_at hl 0 rfl) ?_
    refine lv_if_eq (tgt := 58) hx hb dX2_firstToFall_48 (by decide) (fun c4 => ?_) (fun c4 => ?_)
    · refine lv_aload_n hx hb dX2_firstToFall_58 rfl (lv_at hl 1 rfl) ?_
      refine kget (v := .ref ag) C hP igX2 rfl 0 (by decide) wd_1_76 0 rfl rfl dX2_firstToFall_59 ?_
      exact hend _ _ _ _ _ (by rw [← hr, r_X2_firstToFall, if_pos c4]) hP hS dX2_firstToFall_62
    · refine lv_aload_n hx hb dX2_firstToFall_51 rfl (lv_at hl 1 rfl) ?_
      refine kget (v := .ref ai) C hP igX2 rfl 1 (by decide) wd_1_78 0 rfl rfl dX2_firstToFall_52 ?_
      refine lv_goto (tgt := 62) hx hb dX2_firstToFall_55 (by decide) ?_
      exact hend _ _ _ _ _ (by rw [← hr, r_X2_firstToFall, if_neg c4]) hP hS dX2_firstToFall_62
  refine lv_icmp_eq (tgt := 45) hx hb dX2_firstToFall_9 (by decide) (fun c1 => ?_) (fun c1 => ?_)
  · refine lv_iconst (v := 0) hx hb dX2_firstToFall_45 (by decide) ?_
    have e_mg_X2_firstToFall_9 : (mg_X2_firstToFall_9 G I) = 0 := by rw [mg_X2_firstToFall_9, if_pos c1]
    have jj := j46
    rw [e_mg_X2_firstToFall_9] at jj
    exact jj ls H locs (lv_sub hl [0] rfl) hP hD hS
  · refine lv_aload_n hx hb dX2_firstToFall_12 rfl (lv_at hl 0 rfl) ?_
    refine kget (v := .ref ag) C hP igX2 rfl 0 (by decide) wd_1_76 0 rfl rfl dX2_firstToFall_13 ?_
    refine kget (v := .int (G 4)) C hP igX0 rfl 4 (by decide) wd_1_54 1 rfl rfl dX2_firstToFall_16 ?_
    refine lv_bipush (v := (-6)) hx hb dX2_firstToFall_19 (by decide) ?_
    refine lv_icmp_eq (tgt := 41) hx hb dX2_firstToFall_21 (by decide) (fun c2 => ?_) (fun c2 => ?_)
    · refine lv_iconst (v := 1) hx hb dX2_firstToFall_41 (by decide) ?_
      refine lv_goto (tgt := 46) hx hb dX2_firstToFall_42 (by decide) ?_
      have e_mg_X2_firstToFall_9 : (mg_X2_firstToFall_9 G I) = 1 := by rw [mg_X2_firstToFall_9, if_neg c1, if_pos c2]
      have jj := j46
      rw [e_mg_X2_firstToFall_9] at jj
      exact jj ls H locs (lv_sub hl [0] rfl) hP hD hS
    · refine lv_aload_n hx hb dX2_firstToFall_24 rfl (lv_at hl 0 rfl) ?_
      refine kget (v := .ref ai) C hP igX2 rfl 1 (by decide) wd_1_78 0 rfl rfl dX2_firstToFall_25 ?_
      refine kget (v := .int (I 4)) C hP igX0 rfl 4 (by decide) wd_1_54 2 rfl rfl dX2_firstToFall_28 ?_
      refine lv_aload_n hx hb dX2_firstToFall_31 rfl (lv_at hl 0 rfl) ?_
      refine kget (v := .ref ag) C hP igX2 rfl 0 (by decide) wd_1_76 0 rfl rfl dX2_firstToFall_32 ?_
      refine kget (v := .int (G 4)) C hP igX0 rfl 4 (by decide) wd_1_54 1 rfl rfl dX2_firstToFall_35 ?_
      refine lv_icmp_ge (tgt := 45) hx hb dX2_firstToFall_38 (by decide) (fun c3 => ?_) (fun c3 => ?_)
      · refine lv_iconst (v := 0) hx hb dX2_firstToFall_45 (by decide) ?_
        have e_mg_X2_firstToFall_9 : (mg_X2_firstToFall_9 G I) = 0 := by rw [mg_X2_firstToFall_9, if_neg c1, if_neg c2, if_pos c3]
        have jj := j46
        rw [e_mg_X2_firstToFall_9] at jj
        exact jj ls H locs (lv_sub hl [0] rfl) hP hD hS
      · refine lv_iconst (v := 1) hx hb dX2_firstToFall_41 (by decide) ?_
        refine lv_goto (tgt := 46) hx hb dX2_firstToFall_42 (by decide) ?_
        have e_mg_X2_firstToFall_9 : (mg_X2_firstToFall_9 G I) = 1 := by rw [mg_X2_firstToFall_9, if_neg c1, if_neg c2, if_neg c3]
        have jj := j46
        rw [e_mg_X2_firstToFall_9] at jj
        exact jj ls H locs (lv_sub hl [0] rfl) hP hD hS
def r_X2_firstVialToFall (G : Nat → Int32) (I : Nat → Int32) : Int32 := (if (mg_X2_firstToFall_9 G I) = 0 then (if (G 4) = (-6) then (-6) else (G 1)) else (if (I 4) = (-6) then (-6) else (I 1)))
theorem ck_X2_firstVialToFall : CK yX2_firstVialToFall cX2_firstVialToFall 2 (some .int) 0 := ⟨wd_2_109, wd_1_4, by decide, by decide, by decide +kernel⟩
set_option maxHeartbeats 4000000 in
set_option maxRecDepth 100000 in
theorem c_X2_firstVialToFall (l : Launch) (D : va_G) (cI : ClassId) (al : Nat) (ag : Nat) (ai : Nat) (L : Nat → Int32) (G : Nat → Int32) (I : Nat → Int32) : MI l D cI yX2_firstVialToFall cX2_firstVialToFall 2 (some .int) 1 21 [.ref al] [lc al ag ai L, gc ag G, gc ai I] (r_X2_firstVialToFall G I) [lc al ag ai L, gc ag G, gc ai I] := by
  generalize hr : (r_X2_firstVialToFall G I) = r
  refine MI.mk (own := RX2) rfl (by decide) rfl (Nat.le_of_ble_eq_true rfl) ?_
  intro p e s m args below meth c A Q C hD hend H locs ls hP hS hl
  have hx := C.1.1
  have hb := C.1.2.1
  have hl : lv_has ls 2 [(0, .ref al)] := hl
  refine lv_aload_n hx hb dX2_firstVialToFall_0 rfl (lv_at hl 0 rfl) ?_
  refine go_r (ws' := [lc al ag ai L, gc ag G, gc ai I]) C (rn_V (As := []) (rest := []) C (c_X2_firstToFall l D cI al ag ai L G I H.size) ck_X2_firstToFall wd_2_111 wd_2_112 wd_2_110 ⟨Nat.le_of_ble_eq_true rfl, Nat.le_of_ble_eq_true rfl⟩ ⟨Nat.le_refl _, Nat.le_refl _⟩ (ci := 2) (q0 := 0) rfl rfl hP hD hS [0, 1, 2] rfl rfl hl rfl (Nat.le_of_ble_eq_true rfl) dX2_firstVialToFall_1) hP hD hS [0, 1, 2] rfl rfl rfl (fun H locs hP hD hS => ?_)
  by_cases c1 : (mg_X2_firstToFall_9 G I) = 0
  · rw [show (r_X2_firstToFall ag ai G I) = ag from by rw [r_X2_firstToFall, if_pos c1]]
    refine lv_astore_n (lv' := [(1, .ref ag), (0, .ref al)]) hx hb dX2_firstVialToFall_4 rfl hl (by decide) rfl (fun ls hl => ?_)
    refine lv_aload_n hx hb dX2_firstVialToFall_5 rfl (lv_at hl 0 rfl) ?_
    refine kget (v := .int (G 4)) C hP igX0 rfl 4 (by decide) wd_1_54 1 rfl rfl dX2_firstVialToFall_6 ?_
    refine lv_bipush (v := (-6)) hx hb dX2_firstVialToFall_9 (by decide) ?_
    refine lv_icmp_ne (tgt := 19) hx hb dX2_firstVialToFall_11 (by decide) (fun c2 => ?_) (fun c2 => ?_)
    · refine lv_aload_n hx hb dX2_firstVialToFall_19 rfl (lv_at hl 0 rfl) ?_
      refine kget (v := .int (G 1)) C hP igX0 rfl 1 (by decide) wd_1_48 1 rfl rfl dX2_firstVialToFall_20 ?_
      exact hend _ _ _ _ _ (by rw [← hr, r_X2_firstVialToFall, if_pos c1, if_neg c2]) hP hS dX2_firstVialToFall_23
    · refine lv_bipush (v := (-6)) hx hb dX2_firstVialToFall_14 (by decide) ?_
      refine lv_goto (tgt := 23) hx hb dX2_firstVialToFall_16 (by decide) ?_
      exact hend _ _ _ _ _ (by rw [← hr, r_X2_firstVialToFall, if_pos c1, if_pos c2]) hP hS dX2_firstVialToFall_23
  · rw [show (r_X2_firstToFall ag ai G I) = ai from by rw [r_X2_firstToFall, if_neg c1]]
    refine lv_astore_n (lv' := [(1, .ref ai), (0, .ref al)]) hx hb dX2_firstVialToFall_4 rfl hl (by decide) rfl (fun ls hl => ?_)
    refine lv_aload_n hx hb dX2_firstVialToFall_5 rfl (lv_at hl 0 rfl) ?_
    refine kget (v := .int (I 4)) C hP igX0 rfl 4 (by decide) wd_1_54 2 rfl rfl dX2_firstVialToFall_6 ?_
    refine lv_bipush (v := (-6)) hx hb dX2_firstVialToFall_9 (by decide) ?_
    refine lv_icmp_ne (tgt := 19) hx hb dX2_firstVialToFall_11 (by decide) (fun c3 => ?_) (fun c3 => ?_)
    · refine lv_aload_n hx hb dX2_firstVialToFall_19 rfl (lv_at hl 0 rfl) ?_
      refine kget (v := .int (I 1)) C hP igX0 rfl 1 (by decide) wd_1_48 2 rfl rfl dX2_firstVialToFall_20 ?_
      exact hend _ _ _ _ _ (by rw [← hr, r_X2_firstVialToFall, if_neg c1, if_neg c3]) hP hS dX2_firstVialToFall_23
    · refine lv_bipush (v := (-6)) hx hb dX2_firstVialToFall_14 (by decide) ?_
      refine lv_goto (tgt := 23) hx hb dX2_firstVialToFall_16 (by decide) ?_
      exact hend _ _ _ _ _ (by rw [← hr, r_X2_firstVialToFall, if_neg c1, if_pos c3]) hP hS dX2_firstVialToFall_23
def r_X2_pressureBehind (L : Nat → Int32) (R : Nat → Int32) : Int32 := (if ((L 5) - (r_X3_valueOf R 7)) ≤ 0 then ((L 3) - (r_X3_valueOf R 9)) else (if ((L 3) + (r_X4_quotient ((L 5) - (r_X3_valueOf R 7)) (r_X3_valueOf R 8))) < 20000 then ((L 3) + (r_X4_quotient ((L 5) - (r_X3_valueOf R 7)) (r_X3_valueOf R 8))) else 20000))
theorem ck_X2_pressureBehind : CK yX2_pressureBehind cX2_pressureBehind 3 (some .int) 1 := ⟨wd_2_44, wd_1_4, by decide, by decide, by decide +kernel⟩
set_option maxHeartbeats 4000000 in
set_option maxRecDepth 100000 in
theorem c_X2_pressureBehind (l : Launch) (D : va_G) (cI : ClassId) (al : Nat) (ag : Nat) (ai : Nat) (L : Nat → Int32) (ar : Nat) (av : Nat) (R : Nat → Int32) : MI l D cI yX2_pressureBehind cX2_pressureBehind 3 (some .int) 3 63 [.ref al, .ref ar] [lc al ag ai L, rc ar av, ac cI av 11 R] (r_X2_pressureBehind L R) [lc al ag ai L, rc ar av, ac cI av 11 R] := by
  generalize hr : (r_X2_pressureBehind L R) = r
  refine MI.mk (own := RX2) rfl (by decide) rfl (Nat.le_of_ble_eq_true rfl) ?_
  intro p e s m args below meth c A Q C hD hend H locs ls hP hS hl
  have hx := C.1.1
  have hb := C.1.2.1
  have hl : lv_has ls 3 [(0, .ref al), (1, .ref ar)] := hl
  refine lv_aload_n hx hb dX2_pressureBehind_0 rfl (lv_at hl 0 rfl) ?_
  refine kget (v := .int (L 5)) C hP igX2 rfl 5 (by decide) wd_1_87 0 rfl rfl dX2_pressureBehind_1 ?_
  refine lv_aload_n hx hb dX2_pressureBehind_4 rfl (lv_at hl 1 rfl) ?_
  refine lv_bipush (v := 7) hx hb dX2_pressureBehind_5 (by decide) ?_
  refine go_i (ws' := [lc al ag ai L, rc ar av, ac cI av 11 R]) C (rn_V (As := [.int 7]) (rest := [.int (L 5)]) C (c_X3_valueOf l D cI ar av R 7 H.size) ck_X3_valueOf wd_1_183 wd_1_184 wd_1_228 ⟨Nat.le_of_ble_eq_true rfl, Nat.le_of_ble_eq_true rfl⟩ ⟨Nat.le_refl _, Nat.le_refl _⟩ (ci := 3) (q0 := 1) rfl rfl hP hD hS [1, 2] rfl rfl hl rfl (Nat.le_of_ble_eq_true rfl) dX2_pressureBehind_7) hP hD hS [1, 2] rfl rfl rfl (fun H locs hP hD hS => ?_)
  refine lv_isub hx hb dX2_pressureBehind_10 ?_
  refine lv_istore_n (lv' := [(2, .int ((L 5) - (r_X3_valueOf R 7))), (0, .ref al), (1, .ref ar)]) hx hb dX2_pressureBehind_11 rfl hl (by decide) rfl (fun ls hl => ?_)
  refine lv_iload_n hx hb dX2_pressureBehind_12 rfl (lv_at hl 0 rfl) ?_
  refine lv_if_le (tgt := 38) hx hb dX2_pressureBehind_13 (by decide) (fun c1 => ?_) (fun c1 => ?_)
  · refine lv_aload_n hx hb dX2_pressureBehind_38 rfl (lv_at hl 1 rfl) ?_
    refine kget (v := .int (L 3)) C hP igX2 rfl 3 (by decide) wd_1_84 0 rfl rfl dX2_pressureBehind_39 ?_
    refine lv_aload_n hx hb dX2_pressureBehind_42 rfl (lv_at hl 2 rfl) ?_
    refine lv_bipush (v := 9) hx hb dX2_pressureBehind_43 (by decide) ?_
    refine go_i (ws' := [lc al ag ai L, rc ar av, ac cI av 11 R]) C (rn_V (As := [.int 9]) (rest := [.int (L 3)]) C (c_X3_valueOf l D cI ar av R 9 H.size) ck_X3_valueOf wd_1_183 wd_1_184 wd_1_228 ⟨Nat.le_of_ble_eq_true rfl, Nat.le_of_ble_eq_true rfl⟩ ⟨Nat.le_refl _, Nat.le_refl _⟩ (ci := 3) (q0 := 1) rfl rfl hP hD hS [1, 2] rfl rfl hl rfl (Nat.le_of_ble_eq_true rfl) dX2_pressureBehind_45) hP hD hS [1, 2] rfl rfl rfl (fun H locs hP hD hS => ?_)
    refine lv_isub hx hb dX2_pressureBehind_48 ?_
    exact hend _ _ _ _ _ (by rw [← hr, r_X2_pressureBehind, if_pos c1]) hP hS dX2_pressureBehind_49
  · refine lv_sipush (v := 20000) hx hb dX2_pressureBehind_16 (by decide) ?_
    refine lv_aload_n hx hb dX2_pressureBehind_19 rfl (lv_at hl 1 rfl) ?_
    refine kget (v := .int (L 3)) C hP igX2 rfl 3 (by decide) wd_1_84 0 rfl rfl dX2_pressureBehind_20 ?_
    refine lv_iload_n hx hb dX2_pressureBehind_23 rfl (lv_at hl 0 rfl) ?_
    refine lv_aload_n hx hb dX2_pressureBehind_24 rfl (lv_at hl 2 rfl) ?_
    refine lv_bipush (v := 8) hx hb dX2_pressureBehind_25 (by decide) ?_
    refine go_i (ws' := [lc al ag ai L, rc ar av, ac cI av 11 R]) C (rn_V (As := [.int 8]) (rest := [.int ((L 5) - (r_X3_valueOf R 7)), .int (L 3), .int 20000]) C (c_X3_valueOf l D cI ar av R 8 H.size) ck_X3_valueOf wd_1_183 wd_1_184 wd_1_228 ⟨Nat.le_of_ble_eq_true rfl, Nat.le_of_ble_eq_true rfl⟩ ⟨Nat.le_refl _, Nat.le_refl _⟩ (ci := 3) (q0 := 1) rfl rfl hP hD hS [1, 2] rfl rfl hl rfl (Nat.le_of_ble_eq_true rfl) dX2_pressureBehind_27) hP hD hS [1, 2] rfl rfl rfl (fun H locs hP hD hS => ?_)
    refine go_i (ws' := [lc al ag ai L, rc ar av, ac cI av 11 R]) C (rn_N (As := [.int ((L 5) - (r_X3_valueOf R 7)), .int (r_X3_valueOf R 8)]) (rest := [.int (L 3), .int 20000]) C (c_X4_quotient l D cI ((L 5) - (r_X3_valueOf R 7)) (r_X3_valueOf R 8) H.size) ck_X4_quotient wd_1_209 C.2.2.1.2.2.2.2.1 ⟨Nat.le_of_ble_eq_true rfl, Nat.le_of_ble_eq_true rfl⟩ ⟨Nat.le_refl _, Nat.le_refl _⟩ hP hD hS [] rfl rfl hl rfl (Nat.le_of_ble_eq_true rfl) dX2_pressureBehind_30) hP hD hS [] rfl rfl rfl (fun H locs hP hD hS => ?_)
    refine lv_iadd hx hb dX2_pressureBehind_33 ?_
    refine kmin C hl wd_2_45 wd_2_39 wd_1_8 wd_2_40 ⟨by decide, Nat.le_of_ble_eq_true rfl⟩ ⟨Nat.le_refl _, Nat.le_refl _⟩ dX2_pressureBehind_34 ?_
    exact hend _ _ _ _ _ (by rw [← hr, r_X2_pressureBehind, if_neg c1]) hP hS dX2_pressureBehind_37
def r_X2_otherGauge (L : Nat → Int32) (R : Nat → Int32) : Int32 := (((L 3) * (100 + (r_X4_quotient (60 * (L 5)) ((L 5) + (r_X3_valueOf R 10))))) / 100)
theorem ck_X2_otherGauge : CK yX2_otherGauge cX2_otherGauge 3 (some .int) 1 := ⟨wd_2_4, wd_1_4, by decide, by decide, by decide +kernel⟩
set_option maxHeartbeats 4000000 in
set_option maxRecDepth 100000 in
theorem c_X2_otherGauge (l : Launch) (D : va_G) (cI : ClassId) (al : Nat) (ag : Nat) (ai : Nat) (L : Nat → Int32) (ar : Nat) (av : Nat) (R : Nat → Int32) : MI l D cI yX2_otherGauge cX2_otherGauge 3 (some .int) 3 63 [.ref al, .ref ar] [lc al ag ai L, rc ar av, ac cI av 11 R] (r_X2_otherGauge L R) [lc al ag ai L, rc ar av, ac cI av 11 R] := by
  generalize hr : (r_X2_otherGauge L R) = r
  refine MI.mk (own := RX2) rfl (by decide) rfl (Nat.le_of_ble_eq_true rfl) ?_
  intro p e s m args below meth c A Q C hD hend H locs ls hP hS hl
  have hx := C.1.1
  have hb := C.1.2.1
  have hl : lv_has ls 3 [(0, .ref al), (1, .ref ar)] := hl
  refine lv_bipush (v := 60) hx hb dX2_otherGauge_0 (by decide) ?_
  refine lv_aload_n hx hb dX2_otherGauge_2 rfl (lv_at hl 0 rfl) ?_
  refine kget (v := .int (L 5)) C hP igX2 rfl 5 (by decide) wd_1_87 0 rfl rfl dX2_otherGauge_3 ?_
  refine lv_imul hx hb dX2_otherGauge_6 ?_
  refine lv_aload_n hx hb dX2_otherGauge_7 rfl (lv_at hl 0 rfl) ?_
  refine kget (v := .int (L 5)) C hP igX2 rfl 5 (by decide) wd_1_87 0 rfl rfl dX2_otherGauge_8 ?_
  refine lv_aload_n hx hb dX2_otherGauge_11 rfl (lv_at hl 1 rfl) ?_
  refine lv_bipush (v := 10) hx hb dX2_otherGauge_12 (by decide) ?_
  refine go_i (ws' := [lc al ag ai L, rc ar av, ac cI av 11 R]) C (rn_V (As := [.int 10]) (rest := [.int (L 5), .int (60 * (L 5))]) C (c_X3_valueOf l D cI ar av R 10 H.size) ck_X3_valueOf wd_1_183 wd_1_184 wd_1_228 ⟨Nat.le_of_ble_eq_true rfl, Nat.le_of_ble_eq_true rfl⟩ ⟨Nat.le_refl _, Nat.le_refl _⟩ (ci := 3) (q0 := 1) rfl rfl hP hD hS [1, 2] rfl rfl hl rfl (Nat.le_of_ble_eq_true rfl) dX2_otherGauge_14) hP hD hS [1, 2] rfl rfl rfl (fun H locs hP hD hS => ?_)
  refine lv_iadd hx hb dX2_otherGauge_17 ?_
  refine go_i (ws' := [lc al ag ai L, rc ar av, ac cI av 11 R]) C (rn_N (As := [.int (60 * (L 5)), .int ((L 5) + (r_X3_valueOf R 10))]) (rest := []) C (c_X4_quotient l D cI (60 * (L 5)) ((L 5) + (r_X3_valueOf R 10)) H.size) ck_X4_quotient wd_1_209 C.2.2.1.2.2.2.2.1 ⟨Nat.le_of_ble_eq_true rfl, Nat.le_of_ble_eq_true rfl⟩ ⟨Nat.le_refl _, Nat.le_refl _⟩ hP hD hS [] rfl rfl hl rfl (Nat.le_of_ble_eq_true rfl) dX2_otherGauge_18) hP hD hS [] rfl rfl rfl (fun H locs hP hD hS => ?_)
  refine lv_istore_n (lv' := [(2, .int (r_X4_quotient (60 * (L 5)) ((L 5) + (r_X3_valueOf R 10)))), (0, .ref al), (1, .ref ar)]) hx hb dX2_otherGauge_21 rfl hl (by decide) rfl (fun ls hl => ?_)
  refine lv_aload_n hx hb dX2_otherGauge_22 rfl (lv_at hl 1 rfl) ?_
  refine kget (v := .int (L 3)) C hP igX2 rfl 3 (by decide) wd_1_84 0 rfl rfl dX2_otherGauge_23 ?_
  refine lv_bipush (v := 100) hx hb dX2_otherGauge_26 (by decide) ?_
  refine lv_iload_n hx hb dX2_otherGauge_28 rfl (lv_at hl 0 rfl) ?_
  refine lv_iadd hx hb dX2_otherGauge_29 ?_
  refine lv_imul hx hb dX2_otherGauge_30 ?_
  refine lv_bipush (v := 100) hx hb dX2_otherGauge_31 (by decide) ?_
  refine lv_idiv hx hb dX2_otherGauge_33 (by decide) ?_
  exact hend _ _ _ _ _ (by rw [← hr, r_X2_otherGauge]) hP hS dX2_otherGauge_34
def r_X2_tell (L : Nat → Int32) (G : Nat → Int32) (I : Nat → Int32) (k : Int32) : Int32 := (if k = 0 then (L 2) else (if k = 1 then (L 3) else (if k = 2 then (((G 2) * (G 0)) + ((I 2) * (I 0))) else (if k = 3 then (L 6) else (if k = 4 then (L 5) else (if k = 5 then (L 4) else (if k = 6 then (r_X2_fallenVials G I) else (((G 0) + (I 0)) - (r_X2_vialsWithIce G I)))))))))
theorem ck_X2_tell : CK yX2_tell cX2_tell 2 (some .int) 1 := ⟨wd_2_66, wd_1_4, by decide, by decide, by decide +kernel⟩
set_option maxHeartbeats 4000000 in
set_option maxRecDepth 100000 in
theorem c_X2_tell (l : Launch) (D : va_G) (cI : ClassId) (al : Nat) (ag : Nat) (ai : Nat) (L : Nat → Int32) (G : Nat → Int32) (I : Nat → Int32) (k : Int32) : MI l D cI yX2_tell cX2_tell 2 (some .int) 1 20 [.ref al, .int k] [lc al ag ai L, gc ag G, gc ai I] (r_X2_tell L G I k) [lc al ag ai L, gc ag G, gc ai I] := by
  generalize hr : (r_X2_tell L G I k) = r
  refine MI.mk (own := RX2) rfl (by decide) rfl (Nat.le_of_ble_eq_true rfl) ?_
  intro p e s m args below meth c A Q C hD hend H locs ls hP hS hl
  have hx := C.1.1
  have hb := C.1.2.1
  have hl : lv_has ls 2 [(0, .ref al), (1, .int k)] := hl
  refine lv_iload_n hx hb dX2_tell_0 rfl (lv_at hl 1 rfl) ?_
  by_cases c1 : k = 0
  · refine lv_tableIn (off := 43) (tgt := 44) hx hb dX2_tell_1 (by rw [c1]; decide) (by rw [c1]; decide) (by rw [c1]; rfl) (by decide) ?_
    refine lv_aload_n hx hb dX2_tell_44 rfl (lv_at hl 0 rfl) ?_
    refine kget (v := .int (L 2)) C hP igX2 rfl 2 (by decide) wd_1_81 0 rfl rfl dX2_tell_45 ?_
    exact hend _ _ _ _ _ (by rw [← hr, r_X2_tell, if_pos c1]) hP hS dX2_tell_48
  · skip
    by_cases c2 : k = 1
    · refine lv_tableIn (off := 48) (tgt := 49) hx hb dX2_tell_1 (by rw [c2]; decide) (by rw [c2]; decide) (by rw [c2]; rfl) (by decide) ?_
      refine lv_aload_n hx hb dX2_tell_49 rfl (lv_at hl 0 rfl) ?_
      refine kget (v := .int (L 3)) C hP igX2 rfl 3 (by decide) wd_1_84 0 rfl rfl dX2_tell_50 ?_
      exact hend _ _ _ _ _ (by rw [← hr, r_X2_tell, if_neg c1, if_pos c2]) hP hS dX2_tell_53
    · skip
      by_cases c3 : k = 2
      · refine lv_tableIn (off := 53) (tgt := 54) hx hb dX2_tell_1 (by rw [c3]; decide) (by rw [c3]; decide) (by rw [c3]; rfl) (by decide) ?_
        refine lv_aload_n hx hb dX2_tell_54 rfl (lv_at hl 0 rfl) ?_
        refine kget (v := .ref ag) C hP igX2 rfl 0 (by decide) wd_1_76 0 rfl rfl dX2_tell_55 ?_
        refine kget (v := .int (G 2)) C hP igX0 rfl 2 (by decide) wd_1_50 1 rfl rfl dX2_tell_58 ?_
        refine lv_aload_n hx hb dX2_tell_61 rfl (lv_at hl 0 rfl) ?_
        refine kget (v := .ref ag) C hP igX2 rfl 0 (by decide) wd_1_76 0 rfl rfl dX2_tell_62 ?_
        refine kget (v := .int (G 0)) C hP igX0 rfl 0 (by decide) wd_1_46 1 rfl rfl dX2_tell_65 ?_
        refine lv_imul hx hb dX2_tell_68 ?_
        refine lv_aload_n hx hb dX2_tell_69 rfl (lv_at hl 0 rfl) ?_
        refine kget (v := .ref ai) C hP igX2 rfl 1 (by decide) wd_1_78 0 rfl rfl dX2_tell_70 ?_
        refine kget (v := .int (I 2)) C hP igX0 rfl 2 (by decide) wd_1_50 2 rfl rfl dX2_tell_73 ?_
        refine lv_aload_n hx hb dX2_tell_76 rfl (lv_at hl 0 rfl) ?_
        refine kget (v := .ref ai) C hP igX2 rfl 1 (by decide) wd_1_78 0 rfl rfl dX2_tell_77 ?_
        refine kget (v := .int (I 0)) C hP igX0 rfl 0 (by decide) wd_1_46 2 rfl rfl dX2_tell_80 ?_
        refine lv_imul hx hb dX2_tell_83 ?_
        refine lv_iadd hx hb dX2_tell_84 ?_
        exact hend _ _ _ _ _ (by rw [← hr, r_X2_tell, if_neg c1, if_neg c2, if_pos c3]) hP hS dX2_tell_85
      · skip
        by_cases c4 : k = 3
        · refine lv_tableIn (off := 85) (tgt := 86) hx hb dX2_tell_1 (by rw [c4]; decide) (by rw [c4]; decide) (by rw [c4]; rfl) (by decide) ?_
          refine lv_aload_n hx hb dX2_tell_86 rfl (lv_at hl 0 rfl) ?_
          refine kget (v := .int (L 6)) C hP igX2 rfl 6 (by decide) wd_1_88 0 rfl rfl dX2_tell_87 ?_
          exact hend _ _ _ _ _ (by rw [← hr, r_X2_tell, if_neg c1, if_neg c2, if_neg c3, if_pos c4]) hP hS dX2_tell_90
        · skip
          by_cases c5 : k = 4
          · refine lv_tableIn (off := 90) (tgt := 91) hx hb dX2_tell_1 (by rw [c5]; decide) (by rw [c5]; decide) (by rw [c5]; rfl) (by decide) ?_
            refine lv_aload_n hx hb dX2_tell_91 rfl (lv_at hl 0 rfl) ?_
            refine kget (v := .int (L 5)) C hP igX2 rfl 5 (by decide) wd_1_87 0 rfl rfl dX2_tell_92 ?_
            exact hend _ _ _ _ _ (by rw [← hr, r_X2_tell, if_neg c1, if_neg c2, if_neg c3, if_neg c4, if_pos c5]) hP hS dX2_tell_95
          · skip
            by_cases c6 : k = 5
            · refine lv_tableIn (off := 95) (tgt := 96) hx hb dX2_tell_1 (by rw [c6]; decide) (by rw [c6]; decide) (by rw [c6]; rfl) (by decide) ?_
              refine lv_aload_n hx hb dX2_tell_96 rfl (lv_at hl 0 rfl) ?_
              refine kget (v := .int (L 4)) C hP igX2 rfl 4 (by decide) wd_1_85 0 rfl rfl dX2_tell_97 ?_
              exact hend _ _ _ _ _ (by rw [← hr, r_X2_tell, if_neg c1, if_neg c2, if_neg c3, if_neg c4, if_neg c5, if_pos c6]) hP hS dX2_tell_100
            · skip
              by_cases c7 : k = 6
              · refine lv_tableIn (off := 100) (tgt := 101) hx hb dX2_tell_1 (by rw [c7]; decide) (by rw [c7]; decide) (by rw [c7]; rfl) (by decide) ?_
                refine lv_aload_n hx hb dX2_tell_101 rfl (lv_at hl 0 rfl) ?_
                refine go_i (ws' := [lc al ag ai L, gc ag G, gc ai I]) C (rn_V (As := []) (rest := []) C (c_X2_fallenVials l D cI al ag ai L G I H.size) ck_X2_fallenVials wd_2_68 wd_2_69 wd_2_67 ⟨Nat.le_of_ble_eq_true rfl, Nat.le_of_ble_eq_true rfl⟩ ⟨Nat.le_refl _, Nat.le_refl _⟩ (ci := 2) (q0 := 0) rfl rfl hP hD hS [0, 1, 2] rfl rfl hl rfl (Nat.le_of_ble_eq_true rfl) dX2_tell_102) hP hD hS [0, 1, 2] rfl rfl rfl (fun H locs hP hD hS => ?_)
                exact hend _ _ _ _ _ (by rw [← hr, r_X2_tell, if_neg c1, if_neg c2, if_neg c3, if_neg c4, if_neg c5, if_neg c6, if_pos c7]) hP hS dX2_tell_105
              · skip
                refine lv_tableOut (tgt := 106) hx hb dX2_tell_1 (ts_out (fun k h1 h2 => by rcases (by omega : k = 0 ∨ k = 1 ∨ k = 2 ∨ k = 3 ∨ k = 4 ∨ k = 5 ∨ k = 6) with rfl | rfl | rfl | rfl | rfl | rfl | rfl <;> assumption)) (by decide) ?_
                refine lv_aload_n hx hb dX2_tell_106 rfl (lv_at hl 0 rfl) ?_
                refine kget (v := .ref ag) C hP igX2 rfl 0 (by decide) wd_1_76 0 rfl rfl dX2_tell_107 ?_
                refine kget (v := .int (G 0)) C hP igX0 rfl 0 (by decide) wd_1_46 1 rfl rfl dX2_tell_110 ?_
                refine lv_aload_n hx hb dX2_tell_113 rfl (lv_at hl 0 rfl) ?_
                refine kget (v := .ref ai) C hP igX2 rfl 1 (by decide) wd_1_78 0 rfl rfl dX2_tell_114 ?_
                refine kget (v := .int (I 0)) C hP igX0 rfl 0 (by decide) wd_1_46 2 rfl rfl dX2_tell_117 ?_
                refine lv_iadd hx hb dX2_tell_120 ?_
                refine lv_aload_n hx hb dX2_tell_121 rfl (lv_at hl 0 rfl) ?_
                refine go_i (ws' := [lc al ag ai L, gc ag G, gc ai I]) C (rn_V (As := []) (rest := [.int ((G 0) + (I 0))]) C (c_X2_vialsWithIce l D cI al ag ai L G I H.size) ck_X2_vialsWithIce wd_2_7 wd_2_8 wd_2_71 ⟨Nat.le_of_ble_eq_true rfl, Nat.le_of_ble_eq_true rfl⟩ ⟨Nat.le_refl _, Nat.le_refl _⟩ (ci := 2) (q0 := 0) rfl rfl hP hD hS [0, 1, 2] rfl rfl hl rfl (Nat.le_of_ble_eq_true rfl) dX2_tell_122) hP hD hS [0, 1, 2] rfl rfl rfl (fun H locs hP hD hS => ?_)
                refine lv_isub hx hb dX2_tell_125 ?_
                exact hend _ _ _ _ _ (by rw [← hr, r_X2_tell, if_neg c1, if_neg c2, if_neg c3, if_neg c4, if_neg c5, if_neg c6, if_neg c7]) hP hS dX2_tell_126
def q_X2_start_L (se : Int32) : Nat → Int32 := (l7 0 se se 0 0)
def q_X2_start_G (R : Nat → Int32) (rw : Int32) (cl : Int32) : Nat → Int32 := (q_X0_fill_G ((rw * cl) - ((if 0 < (rw - 2) then (rw - 2) else 0) * (if 0 < (cl - 2) then (cl - 2) else 0))) 0 ((r_X3_valueOf R 1) + (r_X3_valueOf R 2)) (r_X3_valueOf R 0))
def q_X2_start_I (R : Nat → Int32) (rw : Int32) (cl : Int32) : Nat → Int32 := (q_X0_fill_G ((if 0 < (rw - 2) then (rw - 2) else 0) * (if 0 < (cl - 2) then (cl - 2) else 0)) (cl + 1) (r_X3_valueOf R 1) (r_X3_valueOf R 0))
theorem ck_X2_start : CK yX2_start cX2_start 8 none 4 := ⟨wd_1_226, wd_1_4, by decide, by decide, by decide +kernel⟩
set_option maxHeartbeats 4000000 in
set_option maxRecDepth 100000 in
theorem c_X2_start (l : Launch) (D : va_G) (cI : ClassId) (al : Nat) (ag : Nat) (ai : Nat) (L : Nat → Int32) (G : Nat → Int32) (I : Nat → Int32) (ar : Nat) (av : Nat) (R : Nat → Int32) (rw : Int32) (cl : Int32) (se : Int32) : MV l D cI yX2_start cX2_start 8 3 63 [.ref al, .ref ar, .int rw, .int cl, .int se] [lc al ag ai L, gc ag G, gc ai I, rc ar av, ac cI av 11 R] [lc al ag ai (q_X2_start_L se), gc ag (q_X2_start_G R rw cl), gc ai (q_X2_start_I R rw cl), rc ar av, ac cI av 11 R] := by
  generalize ho_L : (q_X2_start_L se) = o_L
  generalize ho_G : (q_X2_start_G R rw cl) = o_G
  generalize ho_I : (q_X2_start_I R rw cl) = o_I
  refine MV.mk (own := RX2) rfl (by decide) (Nat.le_of_ble_eq_true rfl) ?_
  intro p e s m args below meth c A Q C hD hend H locs ls hP hS hl
  have hx := C.1.1
  have hb := C.1.2.1
  have hl : lv_has ls 8 [(0, .ref al), (1, .ref ar), (2, .int rw), (3, .int cl), (4, .int se)] := hl
  refine lv_iconst (v := 0) hx hb dX2_start_0 (by decide) ?_
  refine lv_iload_n hx hb dX2_start_1 rfl (lv_at hl 2 rfl) ?_
  refine lv_iconst (v := 2) hx hb dX2_start_2 (by decide) ?_
  refine lv_isub hx hb dX2_start_3 ?_
  refine kmax C hl wd_1_227 wd_1_206 wd_1_8 wd_1_207 ⟨by decide, Nat.le_of_ble_eq_true rfl⟩ ⟨Nat.le_refl _, Nat.le_refl _⟩ dX2_start_4 ?_
  refine lv_iconst (v := 0) hx hb dX2_start_7 (by decide) ?_
  refine lv_iload_n hx hb dX2_start_8 rfl (lv_at hl 3 rfl) ?_
  refine lv_iconst (v := 2) hx hb dX2_start_9 (by decide) ?_
  refine lv_isub hx hb dX2_start_10 ?_
  refine kmax C hl wd_1_227 wd_1_206 wd_1_8 wd_1_207 ⟨by decide, Nat.le_of_ble_eq_true rfl⟩ ⟨Nat.le_refl _, Nat.le_refl _⟩ dX2_start_11 ?_
  refine lv_imul hx hb dX2_start_14 ?_
  refine lv_istore (lv' := [(5, .int ((if 0 < (rw - 2) then (rw - 2) else 0) * (if 0 < (cl - 2) then (cl - 2) else 0))), (0, .ref al), (1, .ref ar), (2, .int rw), (3, .int cl), (4, .int se)]) hx hb dX2_start_15 hl (by decide) rfl (fun ls hl => ?_)
  refine lv_aload_n hx hb dX2_start_17 rfl (lv_at hl 2 rfl) ?_
  refine lv_iconst (v := 1) hx hb dX2_start_18 (by decide) ?_
  refine go_i (ws' := [lc al ag ai L, gc ag G, gc ai I, rc ar av, ac cI av 11 R]) C (rn_V (As := [.int 1]) (rest := []) C (c_X3_valueOf l D cI ar av R 1 H.size) ck_X3_valueOf wd_1_183 wd_1_184 wd_1_228 ⟨Nat.le_of_ble_eq_true rfl, Nat.le_of_ble_eq_true rfl⟩ ⟨Nat.le_refl _, Nat.le_refl _⟩ (ci := 3) (q0 := 3) rfl rfl hP hD hS [3, 4] rfl rfl hl rfl (Nat.le_of_ble_eq_true rfl) dX2_start_19) hP hD hS [3, 4] rfl rfl rfl (fun H locs hP hD hS => ?_)
  refine lv_istore (lv' := [(6, .int (r_X3_valueOf R 1)), (5, .int ((if 0 < (rw - 2) then (rw - 2) else 0) * (if 0 < (cl - 2) then (cl - 2) else 0))), (0, .ref al), (1, .ref ar), (2, .int rw), (3, .int cl), (4, .int se)]) hx hb dX2_start_22 hl (by decide) rfl (fun ls hl => ?_)
  refine lv_aload_n hx hb dX2_start_24 rfl (lv_at hl 3 rfl) ?_
  refine lv_iconst (v := 0) hx hb dX2_start_25 (by decide) ?_
  refine go_i (ws' := [lc al ag ai L, gc ag G, gc ai I, rc ar av, ac cI av 11 R]) C (rn_V (As := [.int 0]) (rest := []) C (c_X3_valueOf l D cI ar av R 0 H.size) ck_X3_valueOf wd_1_183 wd_1_184 wd_1_228 ⟨Nat.le_of_ble_eq_true rfl, Nat.le_of_ble_eq_true rfl⟩ ⟨Nat.le_refl _, Nat.le_refl _⟩ (ci := 3) (q0 := 3) rfl rfl hP hD hS [3, 4] rfl rfl hl rfl (Nat.le_of_ble_eq_true rfl) dX2_start_26) hP hD hS [3, 4] rfl rfl rfl (fun H locs hP hD hS => ?_)
  refine lv_istore (lv' := [(7, .int (r_X3_valueOf R 0)), (6, .int (r_X3_valueOf R 1)), (5, .int ((if 0 < (rw - 2) then (rw - 2) else 0) * (if 0 < (cl - 2) then (cl - 2) else 0))), (0, .ref al), (1, .ref ar), (2, .int rw), (3, .int cl), (4, .int se)]) hx hb dX2_start_29 hl (by decide) rfl (fun ls hl => ?_)
  refine lv_aload_n hx hb dX2_start_31 rfl (lv_at hl 3 rfl) ?_
  refine kget (v := .ref ag) C hP igX2 rfl 0 (by decide) wd_1_76 0 rfl rfl dX2_start_32 ?_
  refine lv_iload_n hx hb dX2_start_35 rfl (lv_at hl 5 rfl) ?_
  refine lv_iload_n hx hb dX2_start_36 rfl (lv_at hl 6 rfl) ?_
  refine lv_imul hx hb dX2_start_37 ?_
  refine lv_iload hx hb dX2_start_38 (lv_at hl 2 rfl) ?_
  refine lv_isub hx hb dX2_start_40 ?_
  refine lv_iconst (v := 0) hx hb dX2_start_41 (by decide) ?_
  refine lv_iload hx hb dX2_start_42 (lv_at hl 1 rfl) ?_
  refine lv_aload_n hx hb dX2_start_44 rfl (lv_at hl 4 rfl) ?_
  refine lv_iconst (v := 2) hx hb dX2_start_45 (by decide) ?_
  refine go_i (ws' := [lc al ag ai L, gc ag G, gc ai I, rc ar av, ac cI av 11 R]) C (rn_V (As := [.int 2]) (rest := [.int (r_X3_valueOf R 1), .int 0, .int ((rw * cl) - ((if 0 < (rw - 2) then (rw - 2) else 0) * (if 0 < (cl - 2) then (cl - 2) else 0))), .ref ag]) C (c_X3_valueOf l D cI ar av R 2 H.size) ck_X3_valueOf wd_1_183 wd_1_184 wd_1_228 ⟨Nat.le_of_ble_eq_true rfl, Nat.le_of_ble_eq_true rfl⟩ ⟨Nat.le_refl _, Nat.le_refl _⟩ (ci := 3) (q0 := 3) rfl rfl hP hD hS [3, 4] rfl rfl hl rfl (Nat.le_of_ble_eq_true rfl) dX2_start_46) hP hD hS [3, 4] rfl rfl rfl (fun H locs hP hD hS => ?_)
  refine lv_iadd hx hb dX2_start_49 ?_
  refine lv_iload hx hb dX2_start_50 (lv_at hl 0 rfl) ?_
  refine go_v (ws' := [lc al ag ai L, gc ag (q_X0_fill_G ((rw * cl) - ((if 0 < (rw - 2) then (rw - 2) else 0) * (if 0 < (cl - 2) then (cl - 2) else 0))) 0 ((r_X3_valueOf R 1) + (r_X3_valueOf R 2)) (r_X3_valueOf R 0)), gc ai I, rc ar av, ac cI av 11 R]) C (rn_V (As := [.int ((rw * cl) - ((if 0 < (rw - 2) then (rw - 2) else 0) * (if 0 < (cl - 2) then (cl - 2) else 0))), .int 0, .int ((r_X3_valueOf R 1) + (r_X3_valueOf R 2)), .int (r_X3_valueOf R 0)]) (rest := []) C (c_X0_fill l D cI ag G ((rw * cl) - ((if 0 < (rw - 2) then (rw - 2) else 0) * (if 0 < (cl - 2) then (cl - 2) else 0))) 0 ((r_X3_valueOf R 1) + (r_X3_valueOf R 2)) (r_X3_valueOf R 0) H.size) ck_X0_fill wd_1_230 wd_1_231 wd_1_229 ⟨Nat.le_of_ble_eq_true rfl, Nat.le_of_ble_eq_true rfl⟩ ⟨Nat.le_refl _, Nat.le_refl _⟩ (ci := 0) (q0 := 1) rfl rfl hP hD hS [1] rfl rfl hl rfl (Nat.le_of_ble_eq_true rfl) dX2_start_52) hP hD hS [1] rfl rfl rfl (fun H locs hP hD hS => ?_)
  refine lv_aload_n hx hb dX2_start_55 rfl (lv_at hl 3 rfl) ?_
  refine kget (v := .ref ai) C hP igX2 rfl 1 (by decide) wd_1_78 0 rfl rfl dX2_start_56 ?_
  refine lv_iload hx hb dX2_start_59 (lv_at hl 2 rfl) ?_
  refine lv_iload_n hx hb dX2_start_61 rfl (lv_at hl 6 rfl) ?_
  refine lv_iconst (v := 1) hx hb dX2_start_62 (by decide) ?_
  refine lv_iadd hx hb dX2_start_63 ?_
  refine lv_iload hx hb dX2_start_64 (lv_at hl 1 rfl) ?_
  refine lv_iload hx hb dX2_start_66 (lv_at hl 0 rfl) ?_
  refine go_v (ws' := [lc al ag ai L, gc ag (q_X0_fill_G ((rw * cl) - ((if 0 < (rw - 2) then (rw - 2) else 0) * (if 0 < (cl - 2) then (cl - 2) else 0))) 0 ((r_X3_valueOf R 1) + (r_X3_valueOf R 2)) (r_X3_valueOf R 0)), gc ai (q_X0_fill_G ((if 0 < (rw - 2) then (rw - 2) else 0) * (if 0 < (cl - 2) then (cl - 2) else 0)) (cl + 1) (r_X3_valueOf R 1) (r_X3_valueOf R 0)), rc ar av, ac cI av 11 R]) C (rn_V (As := [.int ((if 0 < (rw - 2) then (rw - 2) else 0) * (if 0 < (cl - 2) then (cl - 2) else 0)), .int (cl + 1), .int (r_X3_valueOf R 1), .int (r_X3_valueOf R 0)]) (rest := []) C (c_X0_fill l D cI ai I ((if 0 < (rw - 2) then (rw - 2) else 0) * (if 0 < (cl - 2) then (cl - 2) else 0)) (cl + 1) (r_X3_valueOf R 1) (r_X3_valueOf R 0) H.size) ck_X0_fill wd_1_230 wd_1_231 wd_1_229 ⟨Nat.le_of_ble_eq_true rfl, Nat.le_of_ble_eq_true rfl⟩ ⟨Nat.le_refl _, Nat.le_refl _⟩ (ci := 0) (q0 := 2) rfl rfl hP hD hS [2] rfl rfl hl rfl (Nat.le_of_ble_eq_true rfl) dX2_start_68) hP hD hS [2] rfl rfl rfl (fun H locs hP hD hS => ?_)
  refine lv_aload_n hx hb dX2_start_71 rfl (lv_at hl 3 rfl) ?_
  refine lv_iconst (v := 0) hx hb dX2_start_72 (by decide) ?_
  refine kput (ty := .int) (ws' := [lc al ag ai (l7 0 (L 3) (L 4) (L 5) (L 6)), gc ag (q_X0_fill_G ((rw * cl) - ((if 0 < (rw - 2) then (rw - 2) else 0) * (if 0 < (cl - 2) then (cl - 2) else 0))) 0 ((r_X3_valueOf R 1) + (r_X3_valueOf R 2)) (r_X3_valueOf R 0)), gc ai (q_X0_fill_G ((if 0 < (rw - 2) then (rw - 2) else 0) * (if 0 < (cl - 2) then (cl - 2) else 0)) (cl + 1) (r_X3_valueOf R 1) (r_X3_valueOf R 0)), rc ar av, ac cI av 11 R]) C hP hD hS igX2 tyX2_ok nmX2 rfl 2 (by decide) wd_1_81 rfl rfl rfl rfl 0 rfl (Nat.le_of_ble_eq_true rfl) rfl dX2_start_73 (fun H locs hP hD hS => ?_)
  refine lv_aload_n hx hb dX2_start_76 rfl (lv_at hl 3 rfl) ?_
  refine lv_iload hx hb dX2_start_77 (lv_at hl 7 rfl) ?_
  refine kput (ty := .int) (ws' := [lc al ag ai (l7 0 se (L 4) (L 5) (L 6)), gc ag (q_X0_fill_G ((rw * cl) - ((if 0 < (rw - 2) then (rw - 2) else 0) * (if 0 < (cl - 2) then (cl - 2) else 0))) 0 ((r_X3_valueOf R 1) + (r_X3_valueOf R 2)) (r_X3_valueOf R 0)), gc ai (q_X0_fill_G ((if 0 < (rw - 2) then (rw - 2) else 0) * (if 0 < (cl - 2) then (cl - 2) else 0)) (cl + 1) (r_X3_valueOf R 1) (r_X3_valueOf R 0)), rc ar av, ac cI av 11 R]) C hP hD hS igX2 tyX2_ok nmX2 rfl 3 (by decide) wd_1_84 rfl rfl rfl rfl 0 rfl (Nat.le_of_ble_eq_true rfl) rfl dX2_start_79 (fun H locs hP hD hS => ?_)
  refine lv_aload_n hx hb dX2_start_82 rfl (lv_at hl 3 rfl) ?_
  refine lv_iload hx hb dX2_start_83 (lv_at hl 7 rfl) ?_
  refine kput (ty := .int) (ws' := [lc al ag ai (l7 0 se se (L 5) (L 6)), gc ag (q_X0_fill_G ((rw * cl) - ((if 0 < (rw - 2) then (rw - 2) else 0) * (if 0 < (cl - 2) then (cl - 2) else 0))) 0 ((r_X3_valueOf R 1) + (r_X3_valueOf R 2)) (r_X3_valueOf R 0)), gc ai (q_X0_fill_G ((if 0 < (rw - 2) then (rw - 2) else 0) * (if 0 < (cl - 2) then (cl - 2) else 0)) (cl + 1) (r_X3_valueOf R 1) (r_X3_valueOf R 0)), rc ar av, ac cI av 11 R]) C hP hD hS igX2 tyX2_ok nmX2 rfl 4 (by decide) wd_1_85 rfl rfl rfl rfl 0 rfl (Nat.le_of_ble_eq_true rfl) rfl dX2_start_85 (fun H locs hP hD hS => ?_)
  refine lv_aload_n hx hb dX2_start_88 rfl (lv_at hl 3 rfl) ?_
  refine lv_iconst (v := 0) hx hb dX2_start_89 (by decide) ?_
  refine kput (ty := .int) (ws' := [lc al ag ai (l7 0 se se 0 (L 6)), gc ag (q_X0_fill_G ((rw * cl) - ((if 0 < (rw - 2) then (rw - 2) else 0) * (if 0 < (cl - 2) then (cl - 2) else 0))) 0 ((r_X3_valueOf R 1) + (r_X3_valueOf R 2)) (r_X3_valueOf R 0)), gc ai (q_X0_fill_G ((if 0 < (rw - 2) then (rw - 2) else 0) * (if 0 < (cl - 2) then (cl - 2) else 0)) (cl + 1) (r_X3_valueOf R 1) (r_X3_valueOf R 0)), rc ar av, ac cI av 11 R]) C hP hD hS igX2 tyX2_ok nmX2 rfl 5 (by decide) wd_1_87 rfl rfl rfl rfl 0 rfl (Nat.le_of_ble_eq_true rfl) rfl dX2_start_90 (fun H locs hP hD hS => ?_)
  refine lv_aload_n hx hb dX2_start_93 rfl (lv_at hl 3 rfl) ?_
  refine lv_iconst (v := 0) hx hb dX2_start_94 (by decide) ?_
  refine kput (ty := .int) (ws' := [lc al ag ai (l7 0 se se 0 0), gc ag (q_X0_fill_G ((rw * cl) - ((if 0 < (rw - 2) then (rw - 2) else 0) * (if 0 < (cl - 2) then (cl - 2) else 0))) 0 ((r_X3_valueOf R 1) + (r_X3_valueOf R 2)) (r_X3_valueOf R 0)), gc ai (q_X0_fill_G ((if 0 < (rw - 2) then (rw - 2) else 0) * (if 0 < (cl - 2) then (cl - 2) else 0)) (cl + 1) (r_X3_valueOf R 1) (r_X3_valueOf R 0)), rc ar av, ac cI av 11 R]) C hP hD hS igX2 tyX2_ok nmX2 rfl 6 (by decide) wd_1_88 rfl rfl rfl rfl 0 rfl (Nat.le_of_ble_eq_true rfl) rfl dX2_start_95 (fun H locs hP hD hS => ?_)
  exact hend _ _ _ _ (by rw [← ho_L, q_X2_start_L, ← ho_G, q_X2_start_G, ← ho_I, q_X2_start_I]; exact hP) hS dX2_start_98
noncomputable def q_X2_passMinute_L (L : Nat → Int32) (G : Nat → Int32) (I : Nat → Int32) (R : Nat → Int32) (sh : Int32) (se : Int32) : Nat → Int32 := (l7 ((L 2) + 1) (if se < (r_X2_pressureBehind (l7 (L 2) (L 3) (L 4) ((((q_X0_passMinute_G G R sh (L 3) (L 2)) 3) * ((q_X0_passMinute_G G R sh (L 3) (L 2)) 0)) + (((q_X0_passMinute_G I R sh (L 3) (L 2)) 3) * ((q_X0_passMinute_G I R sh (L 3) (L 2)) 0))) ((L 6) + ((((q_X0_passMinute_G G R sh (L 3) (L 2)) 3) * ((q_X0_passMinute_G G R sh (L 3) (L 2)) 0)) + (((q_X0_passMinute_G I R sh (L 3) (L 2)) 3) * ((q_X0_passMinute_G I R sh (L 3) (L 2)) 0))))) R) then (r_X2_pressureBehind (l7 (L 2) (L 3) (L 4) ((((q_X0_passMinute_G G R sh (L 3) (L 2)) 3) * ((q_X0_passMinute_G G R sh (L 3) (L 2)) 0)) + (((q_X0_passMinute_G I R sh (L 3) (L 2)) 3) * ((q_X0_passMinute_G I R sh (L 3) (L 2)) 0))) ((L 6) + ((((q_X0_passMinute_G G R sh (L 3) (L 2)) 3) * ((q_X0_passMinute_G G R sh (L 3) (L 2)) 0)) + (((q_X0_passMinute_G I R sh (L 3) (L 2)) 3) * ((q_X0_passMinute_G I R sh (L 3) (L 2)) 0))))) R) else se) (if (L 4) < (if se < (r_X2_pressureBehind (l7 (L 2) (L 3) (L 4) ((((q_X0_passMinute_G G R sh (L 3) (L 2)) 3) * ((q_X0_passMinute_G G R sh (L 3) (L 2)) 0)) + (((q_X0_passMinute_G I R sh (L 3) (L 2)) 3) * ((q_X0_passMinute_G I R sh (L 3) (L 2)) 0))) ((L 6) + ((((q_X0_passMinute_G G R sh (L 3) (L 2)) 3) * ((q_X0_passMinute_G G R sh (L 3) (L 2)) 0)) + (((q_X0_passMinute_G I R sh (L 3) (L 2)) 3) * ((q_X0_passMinute_G I R sh (L 3) (L 2)) 0))))) R) then (r_X2_pressureBehind (l7 (L 2) (L 3) (L 4) ((((q_X0_passMinute_G G R sh (L 3) (L 2)) 3) * ((q_X0_passMinute_G G R sh (L 3) (L 2)) 0)) + (((q_X0_passMinute_G I R sh (L 3) (L 2)) 3) * ((q_X0_passMinute_G I R sh (L 3) (L 2)) 0))) ((L 6) + ((((q_X0_passMinute_G G R sh (L 3) (L 2)) 3) * ((q_X0_passMinute_G G R sh (L 3) (L 2)) 0)) + (((q_X0_passMinute_G I R sh (L 3) (L 2)) 3) * ((q_X0_passMinute_G I R sh (L 3) (L 2)) 0))))) R) else se) then (if se < (r_X2_pressureBehind (l7 (L 2) (L 3) (L 4) ((((q_X0_passMinute_G G R sh (L 3) (L 2)) 3) * ((q_X0_passMinute_G G R sh (L 3) (L 2)) 0)) + (((q_X0_passMinute_G I R sh (L 3) (L 2)) 3) * ((q_X0_passMinute_G I R sh (L 3) (L 2)) 0))) ((L 6) + ((((q_X0_passMinute_G G R sh (L 3) (L 2)) 3) * ((q_X0_passMinute_G G R sh (L 3) (L 2)) 0)) + (((q_X0_passMinute_G I R sh (L 3) (L 2)) 3) * ((q_X0_passMinute_G I R sh (L 3) (L 2)) 0))))) R) then (r_X2_pressureBehind (l7 (L 2) (L 3) (L 4) ((((q_X0_passMinute_G G R sh (L 3) (L 2)) 3) * ((q_X0_passMinute_G G R sh (L 3) (L 2)) 0)) + (((q_X0_passMinute_G I R sh (L 3) (L 2)) 3) * ((q_X0_passMinute_G I R sh (L 3) (L 2)) 0))) ((L 6) + ((((q_X0_passMinute_G G R sh (L 3) (L 2)) 3) * ((q_X0_passMinute_G G R sh (L 3) (L 2)) 0)) + (((q_X0_passMinute_G I R sh (L 3) (L 2)) 3) * ((q_X0_passMinute_G I R sh (L 3) (L 2)) 0))))) R) else se) else (L 4)) ((((q_X0_passMinute_G G R sh (L 3) (L 2)) 3) * ((q_X0_passMinute_G G R sh (L 3) (L 2)) 0)) + (((q_X0_passMinute_G I R sh (L 3) (L 2)) 3) * ((q_X0_passMinute_G I R sh (L 3) (L 2)) 0))) ((L 6) + ((((q_X0_passMinute_G G R sh (L 3) (L 2)) 3) * ((q_X0_passMinute_G G R sh (L 3) (L 2)) 0)) + (((q_X0_passMinute_G I R sh (L 3) (L 2)) 3) * ((q_X0_passMinute_G I R sh (L 3) (L 2)) 0)))))
noncomputable def q_X2_passMinute_G (L : Nat → Int32) (G : Nat → Int32) (R : Nat → Int32) (sh : Int32) : Nat → Int32 := (q_X0_passMinute_G G R sh (L 3) (L 2))
noncomputable def q_X2_passMinute_I (L : Nat → Int32) (I : Nat → Int32) (R : Nat → Int32) (sh : Int32) : Nat → Int32 := (q_X0_passMinute_G I R sh (L 3) (L 2))
theorem ck_X2_passMinute : CK yX2_passMinute cX2_passMinute 4 none 3 := ⟨wd_2_25, wd_1_4, by decide, by decide, by decide +kernel⟩
set_option maxHeartbeats 4000000 in
set_option maxRecDepth 100000 in
theorem c_X2_passMinute (l : Launch) (D : va_G) (cI : ClassId) (al : Nat) (ag : Nat) (ai : Nat) (L : Nat → Int32) (G : Nat → Int32) (I : Nat → Int32) (ar : Nat) (av : Nat) (R : Nat → Int32) (sh : Int32) (se : Int32) : MV l D cI yX2_passMinute cX2_passMinute 4 4 102 [.ref al, .ref ar, .int sh, .int se] [lc al ag ai L, gc ag G, gc ai I, rc ar av, ac cI av 11 R] [lc al ag ai (q_X2_passMinute_L L G I R sh se), gc ag (q_X2_passMinute_G L G R sh), gc ai (q_X2_passMinute_I L I R sh), rc ar av, ac cI av 11 R] := by
  generalize ho_L : (q_X2_passMinute_L L G I R sh se) = o_L
  generalize ho_G : (q_X2_passMinute_G L G R sh) = o_G
  generalize ho_I : (q_X2_passMinute_I L I R sh) = o_I
  refine MV.mk (own := RX2) rfl (by decide) (Nat.le_of_ble_eq_true rfl) ?_
  intro p e s m args below meth c A Q C hD hend H locs ls hP hS hl
  have hx := C.1.1
  have hb := C.1.2.1
  have hl : lv_has ls 4 [(0, .ref al), (1, .ref ar), (2, .int sh), (3, .int se)] := hl
  refine lv_aload_n hx hb dX2_passMinute_0 rfl (lv_at hl 0 rfl) ?_
  refine kget (v := .ref ag) C hP igX2 rfl 0 (by decide) wd_1_76 0 rfl rfl dX2_passMinute_1 ?_
  refine lv_aload_n hx hb dX2_passMinute_4 rfl (lv_at hl 1 rfl) ?_
  refine lv_iload_n hx hb dX2_passMinute_5 rfl (lv_at hl 2 rfl) ?_
  refine lv_aload_n hx hb dX2_passMinute_6 rfl (lv_at hl 0 rfl) ?_
  refine kget (v := .int (L 3)) C hP igX2 rfl 3 (by decide) wd_1_84 0 rfl rfl dX2_passMinute_7 ?_
  refine lv_aload_n hx hb dX2_passMinute_10 rfl (lv_at hl 0 rfl) ?_
  refine kget (v := .int (L 2)) C hP igX2 rfl 2 (by decide) wd_1_81 0 rfl rfl dX2_passMinute_11 ?_
  refine go_v (ws' := [lc al ag ai L, gc ag (q_X0_passMinute_G G R sh (L 3) (L 2)), gc ai I, rc ar av, ac cI av 11 R]) C (rn_V (As := [.ref ar, .int sh, .int (L 3), .int (L 2)]) (rest := []) C (c_X0_passMinute l D cI ag G ar av R sh (L 3) (L 2) H.size) ck_X0_passMinute wd_2_27 wd_2_28 wd_2_26 ⟨Nat.le_of_ble_eq_true rfl, Nat.le_of_ble_eq_true rfl⟩ ⟨Nat.le_refl _, Nat.le_refl _⟩ (ci := 0) (q0 := 1) rfl rfl hP hD hS [1, 3, 4] rfl rfl hl rfl (Nat.le_of_ble_eq_true rfl) dX2_passMinute_14) hP hD hS [1, 3, 4] rfl rfl rfl (fun H locs hP hD hS => ?_)
  refine lv_aload_n hx hb dX2_passMinute_17 rfl (lv_at hl 0 rfl) ?_
  refine kget (v := .ref ai) C hP igX2 rfl 1 (by decide) wd_1_78 0 rfl rfl dX2_passMinute_18 ?_
  refine lv_aload_n hx hb dX2_passMinute_21 rfl (lv_at hl 1 rfl) ?_
  refine lv_iload_n hx hb dX2_passMinute_22 rfl (lv_at hl 2 rfl) ?_
  refine lv_aload_n hx hb dX2_passMinute_23 rfl (lv_at hl 0 rfl) ?_
  refine kget (v := .int (L 3)) C hP igX2 rfl 3 (by decide) wd_1_84 0 rfl rfl dX2_passMinute_24 ?_
  refine lv_aload_n hx hb dX2_passMinute_27 rfl (lv_at hl 0 rfl) ?_
  refine kget (v := .int (L 2)) C hP igX2 rfl 2 (by decide) wd_1_81 0 rfl rfl dX2_passMinute_28 ?_
  refine go_v (ws' := [lc al ag ai L, gc ag (q_X0_passMinute_G G R sh (L 3) (L 2)), gc ai (q_X0_passMinute_G I R sh (L 3) (L 2)), rc ar av, ac cI av 11 R]) C (rn_V (As := [.ref ar, .int sh, .int (L 3), .int (L 2)]) (rest := []) C (c_X0_passMinute l D cI ai I ar av R sh (L 3) (L 2) H.size) ck_X0_passMinute wd_2_27 wd_2_28 wd_2_26 ⟨Nat.le_of_ble_eq_true rfl, Nat.le_of_ble_eq_true rfl⟩ ⟨Nat.le_refl _, Nat.le_refl _⟩ (ci := 0) (q0 := 2) rfl rfl hP hD hS [2, 3, 4] rfl rfl hl rfl (Nat.le_of_ble_eq_true rfl) dX2_passMinute_31) hP hD hS [2, 3, 4] rfl rfl rfl (fun H locs hP hD hS => ?_)
  refine lv_aload_n hx hb dX2_passMinute_34 rfl (lv_at hl 0 rfl) ?_
  refine lv_aload_n hx hb dX2_passMinute_35 rfl (lv_at hl 0 rfl) ?_
  refine kget (v := .ref ag) C hP igX2 rfl 0 (by decide) wd_1_76 0 rfl rfl dX2_passMinute_36 ?_
  refine kget (v := .int ((q_X0_passMinute_G G R sh (L 3) (L 2)) 3)) C hP igX0 rfl 3 (by decide) wd_1_52 1 rfl rfl dX2_passMinute_39 ?_
  refine lv_aload_n hx hb dX2_passMinute_42 rfl (lv_at hl 0 rfl) ?_
  refine kget (v := .ref ag) C hP igX2 rfl 0 (by decide) wd_1_76 0 rfl rfl dX2_passMinute_43 ?_
  refine kget (v := .int ((q_X0_passMinute_G G R sh (L 3) (L 2)) 0)) C hP igX0 rfl 0 (by decide) wd_1_46 1 rfl rfl dX2_passMinute_46 ?_
  refine lv_imul hx hb dX2_passMinute_49 ?_
  refine lv_aload_n hx hb dX2_passMinute_50 rfl (lv_at hl 0 rfl) ?_
  refine kget (v := .ref ai) C hP igX2 rfl 1 (by decide) wd_1_78 0 rfl rfl dX2_passMinute_51 ?_
  refine kget (v := .int ((q_X0_passMinute_G I R sh (L 3) (L 2)) 3)) C hP igX0 rfl 3 (by decide) wd_1_52 2 rfl rfl dX2_passMinute_54 ?_
  refine lv_aload_n hx hb dX2_passMinute_57 rfl (lv_at hl 0 rfl) ?_
  refine kget (v := .ref ai) C hP igX2 rfl 1 (by decide) wd_1_78 0 rfl rfl dX2_passMinute_58 ?_
  refine kget (v := .int ((q_X0_passMinute_G I R sh (L 3) (L 2)) 0)) C hP igX0 rfl 0 (by decide) wd_1_46 2 rfl rfl dX2_passMinute_61 ?_
  refine lv_imul hx hb dX2_passMinute_64 ?_
  refine lv_iadd hx hb dX2_passMinute_65 ?_
  refine kput (ty := .int) (ws' := [lc al ag ai (l7 (L 2) (L 3) (L 4) ((((q_X0_passMinute_G G R sh (L 3) (L 2)) 3) * ((q_X0_passMinute_G G R sh (L 3) (L 2)) 0)) + (((q_X0_passMinute_G I R sh (L 3) (L 2)) 3) * ((q_X0_passMinute_G I R sh (L 3) (L 2)) 0))) (L 6)), gc ag (q_X0_passMinute_G G R sh (L 3) (L 2)), gc ai (q_X0_passMinute_G I R sh (L 3) (L 2)), rc ar av, ac cI av 11 R]) C hP hD hS igX2 tyX2_ok nmX2 rfl 5 (by decide) wd_1_87 rfl rfl rfl rfl 0 rfl (Nat.le_of_ble_eq_true rfl) rfl dX2_passMinute_66 (fun H locs hP hD hS => ?_)
  refine lv_aload_n hx hb dX2_passMinute_69 rfl (lv_at hl 0 rfl) ?_
  refine lv_dup hx hb dX2_passMinute_70 rfl ?_
  refine kget (v := .int (L 6)) C hP igX2 rfl 6 (by decide) wd_1_88 0 rfl rfl dX2_passMinute_71 ?_
  refine lv_aload_n hx hb dX2_passMinute_74 rfl (lv_at hl 0 rfl) ?_
  refine kget (v := .int ((((q_X0_passMinute_G G R sh (L 3) (L 2)) 3) * ((q_X0_passMinute_G G R sh (L 3) (L 2)) 0)) + (((q_X0_passMinute_G I R sh (L 3) (L 2)) 3) * ((q_X0_passMinute_G I R sh (L 3) (L 2)) 0)))) C hP igX2 rfl 5 (by decide) wd_1_87 0 rfl rfl dX2_passMinute_75 ?_
  refine lv_iadd hx hb dX2_passMinute_78 ?_
  refine kput (ty := .int) (ws' := [lc al ag ai (l7 (L 2) (L 3) (L 4) ((((q_X0_passMinute_G G R sh (L 3) (L 2)) 3) * ((q_X0_passMinute_G G R sh (L 3) (L 2)) 0)) + (((q_X0_passMinute_G I R sh (L 3) (L 2)) 3) * ((q_X0_passMinute_G I R sh (L 3) (L 2)) 0))) ((L 6) + ((((q_X0_passMinute_G G R sh (L 3) (L 2)) 3) * ((q_X0_passMinute_G G R sh (L 3) (L 2)) 0)) + (((q_X0_passMinute_G I R sh (L 3) (L 2)) 3) * ((q_X0_passMinute_G I R sh (L 3) (L 2)) 0))))), gc ag (q_X0_passMinute_G G R sh (L 3) (L 2)), gc ai (q_X0_passMinute_G I R sh (L 3) (L 2)), rc ar av, ac cI av 11 R]) C hP hD hS igX2 tyX2_ok nmX2 rfl 6 (by decide) wd_1_88 rfl rfl rfl rfl 0 rfl (Nat.le_of_ble_eq_true rfl) rfl dX2_passMinute_79 (fun H locs hP hD hS => ?_)
  refine lv_aload_n hx hb dX2_passMinute_82 rfl (lv_at hl 0 rfl) ?_
  refine lv_iload_n hx hb dX2_passMinute_83 rfl (lv_at hl 3 rfl) ?_
  refine lv_aload_n hx hb dX2_passMinute_84 rfl (lv_at hl 0 rfl) ?_
  refine lv_aload_n hx hb dX2_passMinute_85 rfl (lv_at hl 1 rfl) ?_
  refine go_i (ws' := [lc al ag ai (l7 (L 2) (L 3) (L 4) ((((q_X0_passMinute_G G R sh (L 3) (L 2)) 3) * ((q_X0_passMinute_G G R sh (L 3) (L 2)) 0)) + (((q_X0_passMinute_G I R sh (L 3) (L 2)) 3) * ((q_X0_passMinute_G I R sh (L 3) (L 2)) 0))) ((L 6) + ((((q_X0_passMinute_G G R sh (L 3) (L 2)) 3) * ((q_X0_passMinute_G G R sh (L 3) (L 2)) 0)) + (((q_X0_passMinute_G I R sh (L 3) (L 2)) 3) * ((q_X0_passMinute_G I R sh (L 3) (L 2)) 0))))), gc ag (q_X0_passMinute_G G R sh (L 3) (L 2)), gc ai (q_X0_passMinute_G I R sh (L 3) (L 2)), rc ar av, ac cI av 11 R]) C (rn_V (As := [.ref ar]) (rest := [.int se, .ref al]) C (c_X2_pressureBehind l D cI al ag ai (l7 (L 2) (L 3) (L 4) ((((q_X0_passMinute_G G R sh (L 3) (L 2)) 3) * ((q_X0_passMinute_G G R sh (L 3) (L 2)) 0)) + (((q_X0_passMinute_G I R sh (L 3) (L 2)) 3) * ((q_X0_passMinute_G I R sh (L 3) (L 2)) 0))) ((L 6) + ((((q_X0_passMinute_G G R sh (L 3) (L 2)) 3) * ((q_X0_passMinute_G G R sh (L 3) (L 2)) 0)) + (((q_X0_passMinute_G I R sh (L 3) (L 2)) 3) * ((q_X0_passMinute_G I R sh (L 3) (L 2)) 0))))) ar av R H.size) ck_X2_pressureBehind wd_2_43 wd_0_3 wd_2_41 ⟨Nat.le_of_ble_eq_true rfl, Nat.le_of_ble_eq_true rfl⟩ ⟨Nat.le_refl _, Nat.le_refl _⟩ (ci := 2) (q0 := 0) rfl rfl hP hD hS [0, 3, 4] rfl rfl hl rfl (Nat.le_of_ble_eq_true rfl) dX2_passMinute_86) hP hD hS [0, 3, 4] rfl rfl rfl (fun H locs hP hD hS => ?_)
  refine kmax C hl wd_1_227 wd_1_206 wd_1_8 wd_1_207 ⟨by decide, Nat.le_of_ble_eq_true rfl⟩ ⟨Nat.le_refl _, Nat.le_refl _⟩ dX2_passMinute_89 ?_
  refine kput (ty := .int) (ws' := [lc al ag ai (l7 (L 2) (if se < (r_X2_pressureBehind (l7 (L 2) (L 3) (L 4) ((((q_X0_passMinute_G G R sh (L 3) (L 2)) 3) * ((q_X0_passMinute_G G R sh (L 3) (L 2)) 0)) + (((q_X0_passMinute_G I R sh (L 3) (L 2)) 3) * ((q_X0_passMinute_G I R sh (L 3) (L 2)) 0))) ((L 6) + ((((q_X0_passMinute_G G R sh (L 3) (L 2)) 3) * ((q_X0_passMinute_G G R sh (L 3) (L 2)) 0)) + (((q_X0_passMinute_G I R sh (L 3) (L 2)) 3) * ((q_X0_passMinute_G I R sh (L 3) (L 2)) 0))))) R) then (r_X2_pressureBehind (l7 (L 2) (L 3) (L 4) ((((q_X0_passMinute_G G R sh (L 3) (L 2)) 3) * ((q_X0_passMinute_G G R sh (L 3) (L 2)) 0)) + (((q_X0_passMinute_G I R sh (L 3) (L 2)) 3) * ((q_X0_passMinute_G I R sh (L 3) (L 2)) 0))) ((L 6) + ((((q_X0_passMinute_G G R sh (L 3) (L 2)) 3) * ((q_X0_passMinute_G G R sh (L 3) (L 2)) 0)) + (((q_X0_passMinute_G I R sh (L 3) (L 2)) 3) * ((q_X0_passMinute_G I R sh (L 3) (L 2)) 0))))) R) else se) (L 4) ((((q_X0_passMinute_G G R sh (L 3) (L 2)) 3) * ((q_X0_passMinute_G G R sh (L 3) (L 2)) 0)) + (((q_X0_passMinute_G I R sh (L 3) (L 2)) 3) * ((q_X0_passMinute_G I R sh (L 3) (L 2)) 0))) ((L 6) + ((((q_X0_passMinute_G G R sh (L 3) (L 2)) 3) * ((q_X0_passMinute_G G R sh (L 3) (L 2)) 0)) + (((q_X0_passMinute_G I R sh (L 3) (L 2)) 3) * ((q_X0_passMinute_G I R sh (L 3) (L 2)) 0))))), gc ag (q_X0_passMinute_G G R sh (L 3) (L 2)), gc ai (q_X0_passMinute_G I R sh (L 3) (L 2)), rc ar av, ac cI av 11 R]) C hP hD hS igX2 tyX2_ok nmX2 rfl 3 (by decide) wd_1_84 rfl rfl rfl rfl 0 rfl (Nat.le_of_ble_eq_true rfl) rfl dX2_passMinute_92 (fun H locs hP hD hS => ?_)
  refine lv_aload_n hx hb dX2_passMinute_95 rfl (lv_at hl 0 rfl) ?_
  refine lv_aload_n hx hb dX2_passMinute_96 rfl (lv_at hl 0 rfl) ?_
  refine kget (v := .int (L 4)) C hP igX2 rfl 4 (by decide) wd_1_85 0 rfl rfl dX2_passMinute_97 ?_
  refine lv_aload_n hx hb dX2_passMinute_100 rfl (lv_at hl 0 rfl) ?_
  refine kget (v := .int (if se < (r_X2_pressureBehind (l7 (L 2) (L 3) (L 4) ((((q_X0_passMinute_G G R sh (L 3) (L 2)) 3) * ((q_X0_passMinute_G G R sh (L 3) (L 2)) 0)) + (((q_X0_passMinute_G I R sh (L 3) (L 2)) 3) * ((q_X0_passMinute_G I R sh (L 3) (L 2)) 0))) ((L 6) + ((((q_X0_passMinute_G G R sh (L 3) (L 2)) 3) * ((q_X0_passMinute_G G R sh (L 3) (L 2)) 0)) + (((q_X0_passMinute_G I R sh (L 3) (L 2)) 3) * ((q_X0_passMinute_G I R sh (L 3) (L 2)) 0))))) R) then (r_X2_pressureBehind (l7 (L 2) (L 3) (L 4) ((((q_X0_passMinute_G G R sh (L 3) (L 2)) 3) * ((q_X0_passMinute_G G R sh (L 3) (L 2)) 0)) + (((q_X0_passMinute_G I R sh (L 3) (L 2)) 3) * ((q_X0_passMinute_G I R sh (L 3) (L 2)) 0))) ((L 6) + ((((q_X0_passMinute_G G R sh (L 3) (L 2)) 3) * ((q_X0_passMinute_G G R sh (L 3) (L 2)) 0)) + (((q_X0_passMinute_G I R sh (L 3) (L 2)) 3) * ((q_X0_passMinute_G I R sh (L 3) (L 2)) 0))))) R) else se)) C hP igX2 rfl 3 (by decide) wd_1_84 0 rfl rfl dX2_passMinute_101 ?_
  refine kmax C hl wd_1_227 wd_1_206 wd_1_8 wd_1_207 ⟨by decide, Nat.le_of_ble_eq_true rfl⟩ ⟨Nat.le_refl _, Nat.le_refl _⟩ dX2_passMinute_104 ?_
  refine kput (ty := .int) (ws' := [lc al ag ai (l7 (L 2) (if se < (r_X2_pressureBehind (l7 (L 2) (L 3) (L 4) ((((q_X0_passMinute_G G R sh (L 3) (L 2)) 3) * ((q_X0_passMinute_G G R sh (L 3) (L 2)) 0)) + (((q_X0_passMinute_G I R sh (L 3) (L 2)) 3) * ((q_X0_passMinute_G I R sh (L 3) (L 2)) 0))) ((L 6) + ((((q_X0_passMinute_G G R sh (L 3) (L 2)) 3) * ((q_X0_passMinute_G G R sh (L 3) (L 2)) 0)) + (((q_X0_passMinute_G I R sh (L 3) (L 2)) 3) * ((q_X0_passMinute_G I R sh (L 3) (L 2)) 0))))) R) then (r_X2_pressureBehind (l7 (L 2) (L 3) (L 4) ((((q_X0_passMinute_G G R sh (L 3) (L 2)) 3) * ((q_X0_passMinute_G G R sh (L 3) (L 2)) 0)) + (((q_X0_passMinute_G I R sh (L 3) (L 2)) 3) * ((q_X0_passMinute_G I R sh (L 3) (L 2)) 0))) ((L 6) + ((((q_X0_passMinute_G G R sh (L 3) (L 2)) 3) * ((q_X0_passMinute_G G R sh (L 3) (L 2)) 0)) + (((q_X0_passMinute_G I R sh (L 3) (L 2)) 3) * ((q_X0_passMinute_G I R sh (L 3) (L 2)) 0))))) R) else se) (if (L 4) < (if se < (r_X2_pressureBehind (l7 (L 2) (L 3) (L 4) ((((q_X0_passMinute_G G R sh (L 3) (L 2)) 3) * ((q_X0_passMinute_G G R sh (L 3) (L 2)) 0)) + (((q_X0_passMinute_G I R sh (L 3) (L 2)) 3) * ((q_X0_passMinute_G I R sh (L 3) (L 2)) 0))) ((L 6) + ((((q_X0_passMinute_G G R sh (L 3) (L 2)) 3) * ((q_X0_passMinute_G G R sh (L 3) (L 2)) 0)) + (((q_X0_passMinute_G I R sh (L 3) (L 2)) 3) * ((q_X0_passMinute_G I R sh (L 3) (L 2)) 0))))) R) then (r_X2_pressureBehind (l7 (L 2) (L 3) (L 4) ((((q_X0_passMinute_G G R sh (L 3) (L 2)) 3) * ((q_X0_passMinute_G G R sh (L 3) (L 2)) 0)) + (((q_X0_passMinute_G I R sh (L 3) (L 2)) 3) * ((q_X0_passMinute_G I R sh (L 3) (L 2)) 0))) ((L 6) + ((((q_X0_passMinute_G G R sh (L 3) (L 2)) 3) * ((q_X0_passMinute_G G R sh (L 3) (L 2)) 0)) + (((q_X0_passMinute_G I R sh (L 3) (L 2)) 3) * ((q_X0_passMinute_G I R sh (L 3) (L 2)) 0))))) R) else se) then (if se < (r_X2_pressureBehind (l7 (L 2) (L 3) (L 4) ((((q_X0_passMinute_G G R sh (L 3) (L 2)) 3) * ((q_X0_passMinute_G G R sh (L 3) (L 2)) 0)) + (((q_X0_passMinute_G I R sh (L 3) (L 2)) 3) * ((q_X0_passMinute_G I R sh (L 3) (L 2)) 0))) ((L 6) + ((((q_X0_passMinute_G G R sh (L 3) (L 2)) 3) * ((q_X0_passMinute_G G R sh (L 3) (L 2)) 0)) + (((q_X0_passMinute_G I R sh (L 3) (L 2)) 3) * ((q_X0_passMinute_G I R sh (L 3) (L 2)) 0))))) R) then (r_X2_pressureBehind (l7 (L 2) (L 3) (L 4) ((((q_X0_passMinute_G G R sh (L 3) (L 2)) 3) * ((q_X0_passMinute_G G R sh (L 3) (L 2)) 0)) + (((q_X0_passMinute_G I R sh (L 3) (L 2)) 3) * ((q_X0_passMinute_G I R sh (L 3) (L 2)) 0))) ((L 6) + ((((q_X0_passMinute_G G R sh (L 3) (L 2)) 3) * ((q_X0_passMinute_G G R sh (L 3) (L 2)) 0)) + (((q_X0_passMinute_G I R sh (L 3) (L 2)) 3) * ((q_X0_passMinute_G I R sh (L 3) (L 2)) 0))))) R) else se) else (L 4)) ((((q_X0_passMinute_G G R sh (L 3) (L 2)) 3) * ((q_X0_passMinute_G G R sh (L 3) (L 2)) 0)) + (((q_X0_passMinute_G I R sh (L 3) (L 2)) 3) * ((q_X0_passMinute_G I R sh (L 3) (L 2)) 0))) ((L 6) + ((((q_X0_passMinute_G G R sh (L 3) (L 2)) 3) * ((q_X0_passMinute_G G R sh (L 3) (L 2)) 0)) + (((q_X0_passMinute_G I R sh (L 3) (L 2)) 3) * ((q_X0_passMinute_G I R sh (L 3) (L 2)) 0))))), gc ag (q_X0_passMinute_G G R sh (L 3) (L 2)), gc ai (q_X0_passMinute_G I R sh (L 3) (L 2)), rc ar av, ac cI av 11 R]) C hP hD hS igX2 tyX2_ok nmX2 rfl 4 (by decide) wd_1_85 rfl rfl rfl rfl 0 rfl (Nat.le_of_ble_eq_true rfl) rfl dX2_passMinute_107 (fun H locs hP hD hS => ?_)
  refine lv_aload_n hx hb dX2_passMinute_110 rfl (lv_at hl 0 rfl) ?_
  refine lv_dup hx hb dX2_passMinute_111 rfl ?_
  refine kget (v := .int (L 2)) C hP igX2 rfl 2 (by decide) wd_1_81 0 rfl rfl dX2_passMinute_112 ?_
  refine lv_iconst (v := 1) hx hb dX2_passMinute_115 (by decide) ?_
  refine lv_iadd hx hb dX2_passMinute_116 ?_
  refine kput (ty := .int) (ws' := [lc al ag ai (l7 ((L 2) + 1) (if se < (r_X2_pressureBehind (l7 (L 2) (L 3) (L 4) ((((q_X0_passMinute_G G R sh (L 3) (L 2)) 3) * ((q_X0_passMinute_G G R sh (L 3) (L 2)) 0)) + (((q_X0_passMinute_G I R sh (L 3) (L 2)) 3) * ((q_X0_passMinute_G I R sh (L 3) (L 2)) 0))) ((L 6) + ((((q_X0_passMinute_G G R sh (L 3) (L 2)) 3) * ((q_X0_passMinute_G G R sh (L 3) (L 2)) 0)) + (((q_X0_passMinute_G I R sh (L 3) (L 2)) 3) * ((q_X0_passMinute_G I R sh (L 3) (L 2)) 0))))) R) then (r_X2_pressureBehind (l7 (L 2) (L 3) (L 4) ((((q_X0_passMinute_G G R sh (L 3) (L 2)) 3) * ((q_X0_passMinute_G G R sh (L 3) (L 2)) 0)) + (((q_X0_passMinute_G I R sh (L 3) (L 2)) 3) * ((q_X0_passMinute_G I R sh (L 3) (L 2)) 0))) ((L 6) + ((((q_X0_passMinute_G G R sh (L 3) (L 2)) 3) * ((q_X0_passMinute_G G R sh (L 3) (L 2)) 0)) + (((q_X0_passMinute_G I R sh (L 3) (L 2)) 3) * ((q_X0_passMinute_G I R sh (L 3) (L 2)) 0))))) R) else se) (if (L 4) < (if se < (r_X2_pressureBehind (l7 (L 2) (L 3) (L 4) ((((q_X0_passMinute_G G R sh (L 3) (L 2)) 3) * ((q_X0_passMinute_G G R sh (L 3) (L 2)) 0)) + (((q_X0_passMinute_G I R sh (L 3) (L 2)) 3) * ((q_X0_passMinute_G I R sh (L 3) (L 2)) 0))) ((L 6) + ((((q_X0_passMinute_G G R sh (L 3) (L 2)) 3) * ((q_X0_passMinute_G G R sh (L 3) (L 2)) 0)) + (((q_X0_passMinute_G I R sh (L 3) (L 2)) 3) * ((q_X0_passMinute_G I R sh (L 3) (L 2)) 0))))) R) then (r_X2_pressureBehind (l7 (L 2) (L 3) (L 4) ((((q_X0_passMinute_G G R sh (L 3) (L 2)) 3) * ((q_X0_passMinute_G G R sh (L 3) (L 2)) 0)) + (((q_X0_passMinute_G I R sh (L 3) (L 2)) 3) * ((q_X0_passMinute_G I R sh (L 3) (L 2)) 0))) ((L 6) + ((((q_X0_passMinute_G G R sh (L 3) (L 2)) 3) * ((q_X0_passMinute_G G R sh (L 3) (L 2)) 0)) + (((q_X0_passMinute_G I R sh (L 3) (L 2)) 3) * ((q_X0_passMinute_G I R sh (L 3) (L 2)) 0))))) R) else se) then (if se < (r_X2_pressureBehind (l7 (L 2) (L 3) (L 4) ((((q_X0_passMinute_G G R sh (L 3) (L 2)) 3) * ((q_X0_passMinute_G G R sh (L 3) (L 2)) 0)) + (((q_X0_passMinute_G I R sh (L 3) (L 2)) 3) * ((q_X0_passMinute_G I R sh (L 3) (L 2)) 0))) ((L 6) + ((((q_X0_passMinute_G G R sh (L 3) (L 2)) 3) * ((q_X0_passMinute_G G R sh (L 3) (L 2)) 0)) + (((q_X0_passMinute_G I R sh (L 3) (L 2)) 3) * ((q_X0_passMinute_G I R sh (L 3) (L 2)) 0))))) R) then (r_X2_pressureBehind (l7 (L 2) (L 3) (L 4) ((((q_X0_passMinute_G G R sh (L 3) (L 2)) 3) * ((q_X0_passMinute_G G R sh (L 3) (L 2)) 0)) + (((q_X0_passMinute_G I R sh (L 3) (L 2)) 3) * ((q_X0_passMinute_G I R sh (L 3) (L 2)) 0))) ((L 6) + ((((q_X0_passMinute_G G R sh (L 3) (L 2)) 3) * ((q_X0_passMinute_G G R sh (L 3) (L 2)) 0)) + (((q_X0_passMinute_G I R sh (L 3) (L 2)) 3) * ((q_X0_passMinute_G I R sh (L 3) (L 2)) 0))))) R) else se) else (L 4)) ((((q_X0_passMinute_G G R sh (L 3) (L 2)) 3) * ((q_X0_passMinute_G G R sh (L 3) (L 2)) 0)) + (((q_X0_passMinute_G I R sh (L 3) (L 2)) 3) * ((q_X0_passMinute_G I R sh (L 3) (L 2)) 0))) ((L 6) + ((((q_X0_passMinute_G G R sh (L 3) (L 2)) 3) * ((q_X0_passMinute_G G R sh (L 3) (L 2)) 0)) + (((q_X0_passMinute_G I R sh (L 3) (L 2)) 3) * ((q_X0_passMinute_G I R sh (L 3) (L 2)) 0))))), gc ag (q_X0_passMinute_G G R sh (L 3) (L 2)), gc ai (q_X0_passMinute_G I R sh (L 3) (L 2)), rc ar av, ac cI av 11 R]) C hP hD hS igX2 tyX2_ok nmX2 rfl 2 (by decide) wd_1_81 rfl rfl rfl rfl 0 rfl (Nat.le_of_ble_eq_true rfl) rfl dX2_passMinute_117 (fun H locs hP hD hS => ?_)
  exact hend _ _ _ _ (by rw [← ho_L, q_X2_passMinute_L, ← ho_G, q_X2_passMinute_G, ← ho_I, q_X2_passMinute_I]; exact hP) hS dX2_passMinute_120
end
section
def r_X1_holds (k : Int32) : Int32 := (r_X4_within k 0 2000)
theorem ck_X1_holds : CK yX1_holds cX1_holds 1 (some .boolean) 1 := ⟨wd_1_239, wd_1_6, by decide, by decide, by decide +kernel⟩
theorem b_X1_holds (k : Int32) : (r_X1_holds k) = 0 ∨ (r_X1_holds k) = 1 := b_X4_within _ _ _
set_option maxHeartbeats 4000000 in
set_option maxRecDepth 100000 in
theorem c_X1_holds (l : Launch) (D : va_G) (cI : ClassId) (k : Int32) : MI l D cI yX1_holds cX1_holds 1 (some .boolean) 1 22 [.int k] [] (r_X1_holds k) [] := by
  have hn : narrow .boolean (.int (r_X1_holds k)) = .int (r_X1_holds k) := nb (b_X1_holds k)
  generalize hr : (r_X1_holds k) = r at hn ⊢
  refine MI.mk (own := RX1) rfl (by decide) hn (Nat.le_of_ble_eq_true rfl) ?_
  intro p e s m args below meth c A Q C hD hend H locs ls hP hS hl
  have hx := C.1.1
  have hb := C.1.2.1
  have hl : lv_has ls 1 [(0, .int k)] := hl
  refine lv_iload_n hx hb dX1_holds_0 rfl (lv_at hl 0 rfl) ?_
  refine lv_iconst (v := 0) hx hb dX1_holds_1 (by decide) ?_
  refine lv_sipush (v := 2000) hx hb dX1_holds_2 (by decide) ?_
  refine go_i (ws' := []) C (rn_N (As := [.int k, .int 0, .int 2000]) (rest := []) C (c_X4_within l D cI k 0 2000 H.size) ck_X4_within wd_1_156 C.2.2.1.2.2.1 ⟨Nat.le_of_ble_eq_true rfl, Nat.le_of_ble_eq_true rfl⟩ ⟨Nat.le_refl _, Nat.le_refl _⟩ hP hD hS [] rfl rfl hl rfl (Nat.le_of_ble_eq_true rfl) dX1_holds_5) hP hD hS [] rfl rfl rfl (fun H locs hP hD hS => ?_)
  exact hend _ _ _ _ _ (by rw [← hr, r_X1_holds]) hP hS dX1_holds_8
theorem in_holds {k : Int32} (h : ¬ r_X1_holds k = 0) : vp_in k 2001 := by
  have h := wit.mp h
  have e0 : (0 : Int32).toInt = 0 := rfl
  have e1 : (2000 : Int32).toInt = 2000 := rfl
  exact vp_in_iff.mpr (by omega)
theorem cnt_lt {mo mi : Int32} {n : Nat} (hmo : mo.toInt < 2147483647) (c : ¬ mo < mi) (hm : (mo.toInt + 1 - mi.toInt).toNat < n + 1) : (mo.toInt + 1 - (mi + 1).toInt).toNat < n := by
  have c1 : ¬ mo.toInt < mi.toInt := fun h => c ((tI_lt mo mi).mpr h)
  have e1 : (1 : Int32).toInt = 1 := rfl
  have h0 := rng mi
  rw [addI (by omega) (by omega), e1]
  omega
theorem cnt2_lt {mo i : Int32} {n : Nat} (c : ¬ mo ≤ i) (hm : (mo.toInt - i.toInt).toNat < n + 1) : (mo.toInt - (i + 1).toInt).toNat < n := by
  have c1 : ¬ mo.toInt ≤ i.toInt := fun h => c ((tI_le mo i).mpr h)
  have e1 : (1 : Int32).toInt = 1 := rfl
  have h0 := rng i
  have h1 := rng mo
  rw [addI (by omega) (by omega), e1]
  omega
theorem cnt3_lt {t : Int32} {n : Nat} (c : ¬ 400 < t) (hm : (450 - t.toInt).toNat < n + 1) : (450 - (t + 50).toInt).toNat < n := by
  have e4 : (400 : Int32).toInt = 400 := rfl
  have e5 : (50 : Int32).toInt = 50 := rfl
  have c1 : ¬ 400 < t.toInt := fun h => c ((tI_lt 400 t).mpr h)
  have h0 := rng t
  rw [addI (by omega) (by omega), e5]
  omega
def r_X1_oneAt (o1 : Nat → Int32) (k : Int32) : Int32 := (if (r_X1_holds k) = 0 then (-1) else (o1 (Int32.toNatClampNeg k)))
theorem ck_X1_oneAt : CK yX1_oneAt cX1_oneAt 2 (some .int) 1 := ⟨wd_2_79, wd_1_6, by decide, by decide, by decide +kernel⟩
set_option maxHeartbeats 4000000 in
set_option maxRecDepth 100000 in
theorem c_X1_oneAt (l : Launch) (D : va_G) (cI : ClassId) (ah : Nat) (a1 : Nat) (a2 : Nat) (a3 : Nat) (o1 : Nat → Int32) (o2 : Nat → Int32) (o3 : Nat → Int32) (k : Int32) : MI l D cI yX1_oneAt cX1_oneAt 2 (some .int) 2 42 [.ref ah, .int k] [hc ah a1 a2 a3, ac cI a1 2001 o1, ac cI a2 2001 o2, ac cI a3 2001 o3] (r_X1_oneAt o1 k) [hc ah a1 a2 a3, ac cI a1 2001 o1, ac cI a2 2001 o2, ac cI a3 2001 o3] := by
  generalize hr : (r_X1_oneAt o1 k) = r
  refine MI.mk (own := RX1) rfl (by decide) rfl (Nat.le_of_ble_eq_true rfl) ?_
  intro p e s m args below meth c A Q C hD hend H locs ls hP hS hl
  have hx := C.1.1
  have hb := C.1.2.1
  have hl : lv_has ls 2 [(0, .ref ah), (1, .int k)] := hl
  refine lv_iload_n hx hb dX1_oneAt_0 rfl (lv_at hl 1 rfl) ?_
  refine go_i (ws' := [hc ah a1 a2 a3, ac cI a1 2001 o1, ac cI a2 2001 o2, ac cI a3 2001 o3]) C (rn_S (As := [.int k]) (rest := []) C (c_X1_holds l D cI k H.size) ck_X1_holds wd_1_238 wd_1_237 ⟨Nat.le_of_ble_eq_true rfl, Nat.le_of_ble_eq_true rfl⟩ ⟨Nat.le_refl _, Nat.le_refl _⟩ hP hD hS [] rfl rfl hl rfl (Nat.le_of_ble_eq_true rfl) dX1_oneAt_1) hP hD hS [] rfl rfl rfl (fun H locs hP hD hS => ?_)
  refine lv_if_eq (tgt := 16) hx hb dX1_oneAt_4 (by decide) (fun c1 => ?_) (fun c1 => ?_)
  · refine lv_iconst (v := (-1)) hx hb dX1_oneAt_16 (by decide) ?_
    exact hend _ _ _ _ _ (by rw [← hr, r_X1_oneAt, if_pos c1]) hP hS dX1_oneAt_17
  · refine lv_aload_n hx hb dX1_oneAt_7 rfl (lv_at hl 0 rfl) ?_
    refine kget (v := .ref a1) C hP igX1 rfl 0 (by decide) wd_1_110 0 rfl rfl dX1_oneAt_8 ?_
    refine lv_iload_n hx hb dX1_oneAt_11 rfl (lv_at hl 1 rfl) ?_
    refine kald C hP 1 rfl (in_holds c1) (k := (Int32.toNatClampNeg k)) rfl dX1_oneAt_12 ?_
    refine lv_goto (tgt := 17) hx hb dX1_oneAt_13 (by decide) ?_
    exact hend _ _ _ _ _ (by rw [← hr, r_X1_oneAt, if_neg c1]) hP hS dX1_oneAt_17
def r_X1_otherAt (o2 : Nat → Int32) (k : Int32) : Int32 := (if (r_X1_holds k) = 0 then (-1) else (o2 (Int32.toNatClampNeg k)))
theorem ck_X1_otherAt : CK yX1_otherAt cX1_otherAt 2 (some .int) 1 := ⟨wd_2_83, wd_1_6, by decide, by decide, by decide +kernel⟩
set_option maxHeartbeats 4000000 in
set_option maxRecDepth 100000 in
theorem c_X1_otherAt (l : Launch) (D : va_G) (cI : ClassId) (ah : Nat) (a1 : Nat) (a2 : Nat) (a3 : Nat) (o1 : Nat → Int32) (o2 : Nat → Int32) (o3 : Nat → Int32) (k : Int32) : MI l D cI yX1_otherAt cX1_otherAt 2 (some .int) 2 42 [.ref ah, .int k] [hc ah a1 a2 a3, ac cI a1 2001 o1, ac cI a2 2001 o2, ac cI a3 2001 o3] (r_X1_otherAt o2 k) [hc ah a1 a2 a3, ac cI a1 2001 o1, ac cI a2 2001 o2, ac cI a3 2001 o3] := by
  generalize hr : (r_X1_otherAt o2 k) = r
  refine MI.mk (own := RX1) rfl (by decide) rfl (Nat.le_of_ble_eq_true rfl) ?_
  intro p e s m args below meth c A Q C hD hend H locs ls hP hS hl
  have hx := C.1.1
  have hb := C.1.2.1
  have hl : lv_has ls 2 [(0, .ref ah), (1, .int k)] := hl
  refine lv_iload_n hx hb dX1_otherAt_0 rfl (lv_at hl 1 rfl) ?_
  refine go_i (ws' := [hc ah a1 a2 a3, ac cI a1 2001 o1, ac cI a2 2001 o2, ac cI a3 2001 o3]) C (rn_S (As := [.int k]) (rest := []) C (c_X1_holds l D cI k H.size) ck_X1_holds wd_1_238 wd_1_237 ⟨Nat.le_of_ble_eq_true rfl, Nat.le_of_ble_eq_true rfl⟩ ⟨Nat.le_refl _, Nat.le_refl _⟩ hP hD hS [] rfl rfl hl rfl (Nat.le_of_ble_eq_true rfl) dX1_otherAt_1) hP hD hS [] rfl rfl rfl (fun H locs hP hD hS => ?_)
  refine lv_if_eq (tgt := 16) hx hb dX1_otherAt_4 (by decide) (fun c1 => ?_) (fun c1 => ?_)
  · refine lv_iconst (v := (-1)) hx hb dX1_otherAt_16 (by decide) ?_
    exact hend _ _ _ _ _ (by rw [← hr, r_X1_otherAt, if_pos c1]) hP hS dX1_otherAt_17
  · refine lv_aload_n hx hb dX1_otherAt_7 rfl (lv_at hl 0 rfl) ?_
    refine kget (v := .ref a2) C hP igX1 rfl 1 (by decide) wd_1_111 0 rfl rfl dX1_otherAt_8 ?_
    refine lv_iload_n hx hb dX1_otherAt_11 rfl (lv_at hl 1 rfl) ?_
    refine kald C hP 2 rfl (in_holds c1) (k := (Int32.toNatClampNeg k)) rfl dX1_otherAt_12 ?_
    refine lv_goto (tgt := 17) hx hb dX1_otherAt_13 (by decide) ?_
    exact hend _ _ _ _ _ (by rw [← hr, r_X1_otherAt, if_neg c1]) hP hS dX1_otherAt_17
def r_X1_withIceAt (o3 : Nat → Int32) (k : Int32) : Int32 := (if (r_X1_holds k) = 0 then (-1) else (o3 (Int32.toNatClampNeg k)))
theorem ck_X1_withIceAt : CK yX1_withIceAt cX1_withIceAt 2 (some .int) 1 := ⟨wd_2_101, wd_1_6, by decide, by decide, by decide +kernel⟩
set_option maxHeartbeats 4000000 in
set_option maxRecDepth 100000 in
theorem c_X1_withIceAt (l : Launch) (D : va_G) (cI : ClassId) (ah : Nat) (a1 : Nat) (a2 : Nat) (a3 : Nat) (o1 : Nat → Int32) (o2 : Nat → Int32) (o3 : Nat → Int32) (k : Int32) : MI l D cI yX1_withIceAt cX1_withIceAt 2 (some .int) 2 42 [.ref ah, .int k] [hc ah a1 a2 a3, ac cI a1 2001 o1, ac cI a2 2001 o2, ac cI a3 2001 o3] (r_X1_withIceAt o3 k) [hc ah a1 a2 a3, ac cI a1 2001 o1, ac cI a2 2001 o2, ac cI a3 2001 o3] := by
  generalize hr : (r_X1_withIceAt o3 k) = r
  refine MI.mk (own := RX1) rfl (by decide) rfl (Nat.le_of_ble_eq_true rfl) ?_
  intro p e s m args below meth c A Q C hD hend H locs ls hP hS hl
  have hx := C.1.1
  have hb := C.1.2.1
  have hl : lv_has ls 2 [(0, .ref ah), (1, .int k)] := hl
  refine lv_iload_n hx hb dX1_withIceAt_0 rfl (lv_at hl 1 rfl) ?_
  refine go_i (ws' := [hc ah a1 a2 a3, ac cI a1 2001 o1, ac cI a2 2001 o2, ac cI a3 2001 o3]) C (rn_S (As := [.int k]) (rest := []) C (c_X1_holds l D cI k H.size) ck_X1_holds wd_1_238 wd_1_237 ⟨Nat.le_of_ble_eq_true rfl, Nat.le_of_ble_eq_true rfl⟩ ⟨Nat.le_refl _, Nat.le_refl _⟩ hP hD hS [] rfl rfl hl rfl (Nat.le_of_ble_eq_true rfl) dX1_withIceAt_1) hP hD hS [] rfl rfl rfl (fun H locs hP hD hS => ?_)
  refine lv_if_eq (tgt := 16) hx hb dX1_withIceAt_4 (by decide) (fun c1 => ?_) (fun c1 => ?_)
  · refine lv_iconst (v := (-1)) hx hb dX1_withIceAt_16 (by decide) ?_
    exact hend _ _ _ _ _ (by rw [← hr, r_X1_withIceAt, if_pos c1]) hP hS dX1_withIceAt_17
  · refine lv_aload_n hx hb dX1_withIceAt_7 rfl (lv_at hl 0 rfl) ?_
    refine kget (v := .ref a3) C hP igX1 rfl 2 (by decide) wd_1_112 0 rfl rfl dX1_withIceAt_8 ?_
    refine lv_iload_n hx hb dX1_withIceAt_11 rfl (lv_at hl 1 rfl) ?_
    refine kald C hP 3 rfl (in_holds c1) (k := (Int32.toNatClampNeg k)) rfl dX1_withIceAt_12 ?_
    refine lv_goto (tgt := 17) hx hb dX1_withIceAt_13 (by decide) ?_
    exact hend _ _ _ _ _ (by rw [← hr, r_X1_withIceAt, if_neg c1]) hP hS dX1_withIceAt_17
def mg_X1_findEnd_26 (o1 : Nat → Int32) (o2 : Nat → Int32) (to : Int32) (tg : Int32) (mi : Int32) : Int32 := (if to < ((r_X1_otherAt o2 mi) - (r_X1_oneAt o1 mi)) then 0 else (tg + 1))
def lr_X1_findEnd_6 (o1 : Nat → Int32) (o2 : Nat → Int32) (mo : Int32) (to : Int32) (hd : Int32) : Nat → (Int32) → (Int32) → (Int32)
  | 0, _, _ => 0
  | n + 1, tg, mi => (if mo < mi then (-6) else (if (mg_X1_findEnd_26 o1 o2 to tg mi) < hd then (lr_X1_findEnd_6 o1 o2 mo to hd n (mg_X1_findEnd_26 o1 o2 to tg mi) (mi + 1)) else mi))
noncomputable def r_X1_findEnd (o1 : Nat → Int32) (o2 : Nat → Int32) (mo : Int32) (to : Int32) (hd : Int32) : Int32 := (lr_X1_findEnd_6 o1 o2 mo to hd (fu ((Int32.toInt mo).toNat + 1)) 0 1)
theorem ck_X1_findEnd : CK yX1_findEnd cX1_findEnd 6 (some .int) 3 := ⟨wd_2_91, wd_1_6, by decide, by decide, by decide +kernel⟩
set_option maxHeartbeats 4000000 in
set_option maxRecDepth 100000 in
theorem c_X1_findEnd (l : Launch) (D : va_G) (cI : ClassId) (ah : Nat) (a1 : Nat) (a2 : Nat) (a3 : Nat) (o1 : Nat → Int32) (o2 : Nat → Int32) (o3 : Nat → Int32) (mo : Int32) (to : Int32) (hd : Int32) (hmo : Int32.toInt mo < 2147483647) : MI l D cI yX1_findEnd cX1_findEnd 6 (some .int) 3 63 [.ref ah, .int mo, .int to, .int hd] [hc ah a1 a2 a3, ac cI a1 2001 o1, ac cI a2 2001 o2, ac cI a3 2001 o3] (r_X1_findEnd o1 o2 mo to hd) [hc ah a1 a2 a3, ac cI a1 2001 o1, ac cI a2 2001 o2, ac cI a3 2001 o3] := by
  generalize hr : (r_X1_findEnd o1 o2 mo to hd) = r
  refine MI.mk (own := RX1) rfl (by decide) rfl (Nat.le_of_ble_eq_true rfl) ?_
  intro p e s m args below meth c A Q C hD hend H locs ls hP hS hl
  have hx := C.1.1
  have hb := C.1.2.1
  have hl : lv_has ls 6 [(0, .ref ah), (1, .int mo), (2, .int to), (3, .int hd)] := hl
  refine lv_iconst (v := 0) hx hb dX1_findEnd_0 (by decide) ?_
  refine lv_istore (lv' := [(4, .int 0), (0, .ref ah), (1, .int mo), (2, .int to), (3, .int hd)]) hx hb dX1_findEnd_1 hl (by decide) rfl (fun ls hl => ?_)
  refine lv_iconst (v := 1) hx hb dX1_findEnd_3 (by decide) ?_
  refine lv_istore (lv' := [(5, .int 1), (4, .int 0), (0, .ref ah), (1, .int mo), (2, .int to), (3, .int hd)]) hx hb dX1_findEnd_4 hl (by decide) rfl (fun ls hl => ?_)
  have lp6 : ∀ (n : Nat) (tg : Int32) (mi : Int32), (Int32.toInt mo + 1 - Int32.toInt mi).toNat < n → lr_X1_findEnd_6 o1 o2 mo to hd n tg mi = r → ∀ (ls : Array Slot) (H : Heap) (locs : List Loc), lv_has ls 6 [(0, .ref ah), (1, .int mo), (2, .int to), (3, .int hd), (4, .int tg), (5, .int mi)] → va_P D vwCl [hc ah a1 a2 a3, ac cI a1 2001 o1, ac cI a2 2001 o2, ac cI a3 2001 o3] H → va_D A [hc ah a1 a2 a3, ac cI a1 2001 o1, ac cI a2 2001 o2, ac cI a3 2001 o3] → va_S A s.heap H locs → W p l e (RM 3 63) s m args below meth c H locs 0 0 Q (F0 m 6 ls []) := by
    clear hl hP hD hS
    intro n
    induction n with
    | zero =>
      intro tg mi  hm
      exact absurd hm (Nat.not_lt_zero _)
    | succ n ih =>
      intro tg mi  hm hr ls H locs hl hP hD hS
      refine lv_iload hx hb dX1_findEnd_6 (lv_at hl 5 rfl) ?_
      refine lv_iload_n hx hb dX1_findEnd_8 rfl (lv_at hl 1 rfl) ?_
      refine lv_icmp_gt (tgt := 54) hx hb dX1_findEnd_9 (by decide) (fun c1 => ?_) (fun c1 => ?_)
      · refine lv_bipush (v := (-6)) hx hb dX1_findEnd_54 (by decide) ?_
        exact hend _ _ _ _ _ (by rw [← hr, lr_X1_findEnd_6, if_pos c1]) hP hS dX1_findEnd_56
      · refine lv_aload_n hx hb dX1_findEnd_12 rfl (lv_at hl 0 rfl) ?_
        refine lv_iload hx hb dX1_findEnd_13 (lv_at hl 5 rfl) ?_
        refine go_i (ws' := [hc ah a1 a2 a3, ac cI a1 2001 o1, ac cI a2 2001 o2, ac cI a3 2001 o3]) C (rn_V (As := [.int mi]) (rest := []) C (c_X1_otherAt l D cI ah a1 a2 a3 o1 o2 o3 mi H.size) ck_X1_otherAt wd_2_81 wd_2_82 wd_2_92 ⟨Nat.le_of_ble_eq_true rfl, Nat.le_of_ble_eq_true rfl⟩ ⟨Nat.le_refl _, Nat.le_refl _⟩ (ci := 1) (q0 := 0) rfl rfl hP hD hS [0, 1, 2, 3] rfl rfl hl rfl (Nat.le_of_ble_eq_true rfl) dX1_findEnd_15) hP hD hS [0, 1, 2, 3] rfl rfl rfl (fun H locs hP hD hS => ?_)
        refine lv_aload_n hx hb dX1_findEnd_18 rfl (lv_at hl 0 rfl) ?_
        refine lv_iload hx hb dX1_findEnd_19 (lv_at hl 5 rfl) ?_
        refine go_i (ws' := [hc ah a1 a2 a3, ac cI a1 2001 o1, ac cI a2 2001 o2, ac cI a3 2001 o3]) C (rn_V (As := [.int mi]) (rest := [.int (r_X1_otherAt o2 mi)]) C (c_X1_oneAt l D cI ah a1 a2 a3 o1 o2 o3 mi H.size) ck_X1_oneAt wd_2_77 wd_2_78 wd_2_93 ⟨Nat.le_of_ble_eq_true rfl, Nat.le_of_ble_eq_true rfl⟩ ⟨Nat.le_refl _, Nat.le_refl _⟩ (ci := 1) (q0 := 0) rfl rfl hP hD hS [0, 1, 2, 3] rfl rfl hl rfl (Nat.le_of_ble_eq_true rfl) dX1_findEnd_21) hP hD hS [0, 1, 2, 3] rfl rfl rfl (fun H locs hP hD hS => ?_)
        refine lv_isub hx hb dX1_findEnd_24 ?_
        refine lv_iload_n hx hb dX1_findEnd_25 rfl (lv_at hl 2 rfl) ?_
        have j37 : ∀ (ls : Array Slot) (H : Heap) (locs : List Loc), lv_has ls 6 [(0, .ref ah), (1, .int mo), (2, .int to), (3, .int hd), (4, .int tg), (5, .int mi)] → va_P D vwCl [hc ah a1 a2 a3, ac cI a1 2001 o1, ac cI a2 2001 o2, ac cI a3 2001 o3] H → va_D A [hc ah a1 a2 a3, ac cI a1 2001 o1, ac cI a2 2001 o2, ac cI a3 2001 o3] → va_S A s.heap H locs → W p l e (RM 3 63) s m args below meth c H locs 0 0 Q (F0 m 37 ls [.int (mg_X1_findEnd_26 o1 o2 to tg mi)]) := by
          intro ls H locs hl hP hD hS
          refine lv_istore (lv' := [(4, .int (mg_X1_findEnd_26 o1 o2 to tg mi)), (0, .ref ah), (1, .int mo), (2, .int to), (3, .int hd), (5, .int mi)]) hx hb dX1_findEnd_37 hl (by decide) rfl (fun ls hl => ?_)
          refine lv_iload hx hb dX1_findEnd_39 (lv_at hl 0 rfl) ?_
          refine lv_iload_n hx hb dX1_findEnd_41 rfl (lv_at hl 4 rfl) ?_
          refine lv_icmp_lt (tgt := 48) hx hb dX1_findEnd_42 (by decide) (fun c3 => ?_) (fun c3 => ?_)
          · refine lv_iinc (v := (mi + 1)) (lv' := [(5, .int (mi + 1)), (4, .int (mg_X1_findEnd_26 o1 o2 to tg mi)), (0, .ref ah), (1, .int mo), (2, .int to), (3, .int hd)]) hx hb dX1_findEnd_48 hl (k := 5) rfl rfl (by decide) rfl (fun ls hl => ?_)
            refine lv_goto (tgt := 6) hx hb dX1_findEnd_51 (by decide) ?_
            exact ih (mg_X1_findEnd_26 o1 o2 to tg mi) (mi + 1)  (cnt_lt hmo c1 hm) (by rw [← hr, lr_X1_findEnd_6, if_neg c1, if_pos c3]) ls H locs (lv_sub hl [2, 3, 4, 5, 1, 0] rfl) hP hD hS
          · refine lv_iload hx hb dX1_findEnd_45 (lv_at hl 5 rfl) ?_
            exact hend _ _ _ _ _ (by rw [← hr, lr_X1_findEnd_6, if_neg c1, if_neg c3]) hP hS dX1_findEnd_47
        refine lv_icmp_gt (tgt := 36) hx hb dX1_findEnd_26 (by decide) (fun c2 => ?_) (fun c2 => ?_)
        · refine lv_iconst (v := 0) hx hb dX1_findEnd_36 (by decide) ?_
          have e_mg_X1_findEnd_26 : (mg_X1_findEnd_26 o1 o2 to tg mi) = 0 := by rw [mg_X1_findEnd_26, if_pos c2]
          have jj := j37
          rw [e_mg_X1_findEnd_26] at jj
          exact jj ls H locs (lv_sub hl [0, 1, 2, 3, 4, 5] rfl) hP hD hS
        · refine lv_iload hx hb dX1_findEnd_29 (lv_at hl 4 rfl) ?_
          refine lv_iconst (v := 1) hx hb dX1_findEnd_31 (by decide) ?_
          refine lv_iadd hx hb dX1_findEnd_32 ?_
          refine lv_goto (tgt := 37) hx hb dX1_findEnd_33 (by decide) ?_
          have e_mg_X1_findEnd_26 : (mg_X1_findEnd_26 o1 o2 to tg mi) = (tg + 1) := by rw [mg_X1_findEnd_26, if_neg c2]
          have jj := j37
          rw [e_mg_X1_findEnd_26] at jj
          exact jj ls H locs (lv_sub hl [0, 1, 2, 3, 4, 5] rfl) hP hD hS
  exact lp6 (fu ((Int32.toInt mo).toNat + 1)) 0 1  (by rw [fu_eq]; have e1 : (1 : Int32).toInt = 1 := rfl; omega) (by rw [← hr, r_X1_findEnd]) ls H locs (lv_sub hl [2, 3, 4, 5, 1, 0] rfl) hP hD hS
def q_X1_note_o1 (o1 : Nat → Int32) (L : Nat → Int32) : Nat → Int32 := (if (r_X1_holds (L 2)) = 0 then o1 else (upd o1 (Int32.toNatClampNeg (L 2)) (L 3)))
def q_X1_note_o2 (o2 : Nat → Int32) (L : Nat → Int32) (R : Nat → Int32) : Nat → Int32 := (if (r_X1_holds (L 2)) = 0 then o2 else (upd o2 (Int32.toNatClampNeg (L 2)) (r_X2_otherGauge L R)))
def q_X1_note_o3 (o3 : Nat → Int32) (L : Nat → Int32) (G : Nat → Int32) (I : Nat → Int32) : Nat → Int32 := (if (r_X1_holds (L 2)) = 0 then o3 else (upd o3 (Int32.toNatClampNeg (L 2)) (r_X2_vialsWithIce G I)))
theorem ck_X1_note : CK yX1_note cX1_note 4 none 2 := ⟨wd_1_236, wd_1_6, by decide, by decide, by decide +kernel⟩
set_option maxHeartbeats 4000000 in
set_option maxRecDepth 100000 in
theorem c_X1_note (l : Launch) (D : va_G) (cI : ClassId) (ah : Nat) (a1 : Nat) (a2 : Nat) (a3 : Nat) (o1 : Nat → Int32) (o2 : Nat → Int32) (o3 : Nat → Int32) (al : Nat) (ag : Nat) (ai : Nat) (L : Nat → Int32) (G : Nat → Int32) (I : Nat → Int32) (ar : Nat) (av : Nat) (R : Nat → Int32) : MV l D cI yX1_note cX1_note 4 4 85 [.ref ah, .ref al, .ref ar] [hc ah a1 a2 a3, ac cI a1 2001 o1, ac cI a2 2001 o2, ac cI a3 2001 o3, lc al ag ai L, gc ag G, gc ai I, rc ar av, ac cI av 11 R] [hc ah a1 a2 a3, ac cI a1 2001 (q_X1_note_o1 o1 L), ac cI a2 2001 (q_X1_note_o2 o2 L R), ac cI a3 2001 (q_X1_note_o3 o3 L G I), lc al ag ai L, gc ag G, gc ai I, rc ar av, ac cI av 11 R] := by
  generalize ho_o1 : (q_X1_note_o1 o1 L) = o_o1
  generalize ho_o2 : (q_X1_note_o2 o2 L R) = o_o2
  generalize ho_o3 : (q_X1_note_o3 o3 L G I) = o_o3
  refine MV.mk (own := RX1) rfl (by decide) (Nat.le_of_ble_eq_true rfl) ?_
  intro p e s m args below meth c A Q C hD hend H locs ls hP hS hl
  have hx := C.1.1
  have hb := C.1.2.1
  have hl : lv_has ls 4 [(0, .ref ah), (1, .ref al), (2, .ref ar)] := hl
  refine lv_aload_n hx hb dX1_note_0 rfl (lv_at hl 1 rfl) ?_
  refine kget (v := .int (L 2)) C hP igX2 rfl 2 (by decide) wd_1_80 4 rfl rfl dX1_note_1 ?_
  refine lv_istore_n (lv' := [(3, .int (L 2)), (0, .ref ah), (1, .ref al), (2, .ref ar)]) hx hb dX1_note_4 rfl hl (by decide) rfl (fun ls hl => ?_)
  refine lv_iload_n hx hb dX1_note_5 rfl (lv_at hl 0 rfl) ?_
  refine go_i (ws' := [hc ah a1 a2 a3, ac cI a1 2001 o1, ac cI a2 2001 o2, ac cI a3 2001 o3, lc al ag ai L, gc ag G, gc ai I, rc ar av, ac cI av 11 R]) C (rn_S (As := [.int (L 2)]) (rest := []) C (c_X1_holds l D cI (L 2) H.size) ck_X1_holds wd_1_238 wd_1_237 ⟨Nat.le_of_ble_eq_true rfl, Nat.le_of_ble_eq_true rfl⟩ ⟨Nat.le_refl _, Nat.le_refl _⟩ hP hD hS [] rfl rfl hl rfl (Nat.le_of_ble_eq_true rfl) dX1_note_6) hP hD hS [] rfl rfl rfl (fun H locs hP hD hS => ?_)
  refine lv_if_eq (tgt := 43) hx hb dX1_note_9 (by decide) (fun c1 => ?_) (fun c1 => ?_)
  · exact hend _ _ _ _ (by rw [← ho_o1, q_X1_note_o1, if_pos c1, ← ho_o2, q_X1_note_o2, if_pos c1, ← ho_o3, q_X1_note_o3, if_pos c1]; exact hP) hS dX1_note_43
  · refine lv_aload_n hx hb dX1_note_12 rfl (lv_at hl 1 rfl) ?_
    refine kget (v := .ref a1) C hP igX1 rfl 0 (by decide) wd_1_110 0 rfl rfl dX1_note_13 ?_
    refine lv_iload_n hx hb dX1_note_16 rfl (lv_at hl 0 rfl) ?_
    refine lv_aload_n hx hb dX1_note_17 rfl (lv_at hl 2 rfl) ?_
    refine kget (v := .int (L 3)) C hP igX2 rfl 3 (by decide) wd_1_83 4 rfl rfl dX1_note_18 ?_
    refine kast (ws' := [hc ah a1 a2 a3, ac cI a1 2001 (upd o1 (Int32.toNatClampNeg (L 2)) (L 3)), ac cI a2 2001 o2, ac cI a3 2001 o3, lc al ag ai L, gc ag G, gc ai I, rc ar av, ac cI av 11 R]) C hP hD hS 1 rfl (in_holds c1) (k := (Int32.toNatClampNeg (L 2))) rfl rfl dX1_note_21 (fun H locs hP hD hS => ?_)
    refine lv_aload_n hx hb dX1_note_22 rfl (lv_at hl 1 rfl) ?_
    refine kget (v := .ref a2) C hP igX1 rfl 1 (by decide) wd_1_111 0 rfl rfl dX1_note_23 ?_
    refine lv_iload_n hx hb dX1_note_26 rfl (lv_at hl 0 rfl) ?_
    refine lv_aload_n hx hb dX1_note_27 rfl (lv_at hl 2 rfl) ?_
    refine lv_aload_n hx hb dX1_note_28 rfl (lv_at hl 3 rfl) ?_
    refine go_i (ws' := [hc ah a1 a2 a3, ac cI a1 2001 (upd o1 (Int32.toNatClampNeg (L 2)) (L 3)), ac cI a2 2001 o2, ac cI a3 2001 o3, lc al ag ai L, gc ag G, gc ai I, rc ar av, ac cI av 11 R]) C (rn_V (As := [.ref ar]) (rest := [.int (L 2), .ref a2]) C (c_X2_otherGauge l D cI al ag ai L ar av R H.size) ck_X2_otherGauge wd_2_2 wd_2_3 wd_2_1 ⟨Nat.le_of_ble_eq_true rfl, Nat.le_of_ble_eq_true rfl⟩ ⟨Nat.le_refl _, Nat.le_refl _⟩ (ci := 2) (q0 := 4) rfl rfl hP hD hS [4, 7, 8] rfl rfl hl rfl (Nat.le_of_ble_eq_true rfl) dX1_note_29) hP hD hS [4, 7, 8] rfl rfl rfl (fun H locs hP hD hS => ?_)
    refine kast (ws' := [hc ah a1 a2 a3, ac cI a1 2001 (upd o1 (Int32.toNatClampNeg (L 2)) (L 3)), ac cI a2 2001 (upd o2 (Int32.toNatClampNeg (L 2)) (r_X2_otherGauge L R)), ac cI a3 2001 o3, lc al ag ai L, gc ag G, gc ai I, rc ar av, ac cI av 11 R]) C hP hD hS 2 rfl (in_holds c1) (k := (Int32.toNatClampNeg (L 2))) rfl rfl dX1_note_32 (fun H locs hP hD hS => ?_)
    refine lv_aload_n hx hb dX1_note_33 rfl (lv_at hl 1 rfl) ?_
    refine kget (v := .ref a3) C hP igX1 rfl 2 (by decide) wd_1_112 0 rfl rfl dX1_note_34 ?_
    refine lv_iload_n hx hb dX1_note_37 rfl (lv_at hl 0 rfl) ?_
    refine lv_aload_n hx hb dX1_note_38 rfl (lv_at hl 2 rfl) ?_
    refine go_i (ws' := [hc ah a1 a2 a3, ac cI a1 2001 (upd o1 (Int32.toNatClampNeg (L 2)) (L 3)), ac cI a2 2001 (upd o2 (Int32.toNatClampNeg (L 2)) (r_X2_otherGauge L R)), ac cI a3 2001 o3, lc al ag ai L, gc ag G, gc ai I, rc ar av, ac cI av 11 R]) C (rn_V (As := []) (rest := [.int (L 2), .ref a3]) C (c_X2_vialsWithIce l D cI al ag ai L G I H.size) ck_X2_vialsWithIce wd_2_7 wd_2_8 wd_2_6 ⟨Nat.le_of_ble_eq_true rfl, Nat.le_of_ble_eq_true rfl⟩ ⟨Nat.le_refl _, Nat.le_refl _⟩ (ci := 2) (q0 := 4) rfl rfl hP hD hS [4, 5, 6] rfl rfl hl rfl (Nat.le_of_ble_eq_true rfl) dX1_note_39) hP hD hS [4, 5, 6] rfl rfl rfl (fun H locs hP hD hS => ?_)
    refine kast (ws' := [hc ah a1 a2 a3, ac cI a1 2001 (upd o1 (Int32.toNatClampNeg (L 2)) (L 3)), ac cI a2 2001 (upd o2 (Int32.toNatClampNeg (L 2)) (r_X2_otherGauge L R)), ac cI a3 2001 (upd o3 (Int32.toNatClampNeg (L 2)) (r_X2_vialsWithIce G I)), lc al ag ai L, gc ag G, gc ai I, rc ar av, ac cI av 11 R]) C hP hD hS 3 rfl (in_holds c1) (k := (Int32.toNatClampNeg (L 2))) rfl rfl dX1_note_42 (fun H locs hP hD hS => ?_)
    exact hend _ _ _ _ (by rw [← ho_o1, q_X1_note_o1, if_neg c1, ← ho_o2, q_X1_note_o2, if_neg c1, ← ho_o3, q_X1_note_o3, if_neg c1]; exact hP) hS dX1_note_43
end
section
def r_X4_places (X : Nat → Int32) : Int32 := ((X 4) * (X 5))
theorem ck_X4_places : CK yX4_places cX4_places 1 (some .int) 0 := ⟨wd_1_161, wd_1_1, by decide, by decide, by decide +kernel⟩
set_option maxHeartbeats 4000000 in
set_option maxRecDepth 100000 in
theorem c_X4_places (l : Launch) (D : va_G) (cI : ClassId) (ax : Nat) (ar : Nat) (al : Nat) (at_ : Nat) (ah : Nat) (X : Nat → Int32) : MI l D cI yX4_places cX4_places 1 (some .int) 0 0 [.ref ax] [xc ax ar al at_ ah X] (r_X4_places X) [xc ax ar al at_ ah X] := by
  generalize hr : (r_X4_places X) = r
  refine MI.mk (own := RX4) rfl (by decide) rfl (Nat.le_of_ble_eq_true rfl) ?_
  intro p e s m args below meth c A Q C hD hend H locs ls hP hS hl
  have hx := C.1.1
  have hb := C.1.2.1
  have hl : lv_has ls 1 [(0, .ref ax)] := hl
  refine lv_aload_n hx hb dX4_places_0 rfl (lv_at hl 0 rfl) ?_
  refine kget (v := .int (X 4)) C hP igX4 rfl 4 (by decide) wd_1_124 0 rfl rfl dX4_places_1 ?_
  refine lv_aload_n hx hb dX4_places_4 rfl (lv_at hl 0 rfl) ?_
  refine kget (v := .int (X 5)) C hP igX4 rfl 5 (by decide) wd_1_125 0 rfl rfl dX4_places_5 ?_
  refine lv_imul hx hb dX4_places_8 ?_
  exact hend _ _ _ _ _ (by rw [← hr, r_X4_places]) hP hS dX4_places_9
def r_X4_isAtRim (X : Nat → Int32) (k : Int32) : Int32 := (if (r_X4_quotient k (X 5)) = 0 then 1 else (if (r_X4_quotient k (X 5)) = ((X 4) - 1) then 1 else (if (k - ((r_X4_quotient k (X 5)) * (X 5))) = 0 then 1 else (if (k - ((r_X4_quotient k (X 5)) * (X 5))) = ((X 5) - 1) then 1 else 0))))
theorem ck_X4_isAtRim : CK yX4_isAtRim cX4_isAtRim 4 (some .boolean) 1 := ⟨wd_1_218, wd_1_1, by decide, by decide, by decide +kernel⟩
theorem b_X4_isAtRim (X : Nat → Int32) (k : Int32) : (r_X4_isAtRim X k) = 0 ∨ (r_X4_isAtRim X k) = 1 := by
  unfold r_X4_isAtRim
  repeat' split
  all_goals first | exact Or.inl rfl | exact Or.inr rfl | exact b_X4_within _ _ _
set_option maxHeartbeats 4000000 in
set_option maxRecDepth 100000 in
theorem c_X4_isAtRim (l : Launch) (D : va_G) (cI : ClassId) (ax : Nat) (ar : Nat) (al : Nat) (at_ : Nat) (ah : Nat) (X : Nat → Int32) (k : Int32) : MI l D cI yX4_isAtRim cX4_isAtRim 4 (some .boolean) 1 21 [.ref ax, .int k] [xc ax ar al at_ ah X] (r_X4_isAtRim X k) [xc ax ar al at_ ah X] := by
  have hn : narrow .boolean (.int (r_X4_isAtRim X k)) = .int (r_X4_isAtRim X k) := nb (b_X4_isAtRim X k)
  generalize hr : (r_X4_isAtRim X k) = r at hn ⊢
  refine MI.mk (own := RX4) rfl (by decide) hn (Nat.le_of_ble_eq_true rfl) ?_
  intro p e s m args below meth c A Q C hD hend H locs ls hP hS hl
  have hx := C.1.1
  have hb := C.1.2.1
  have hl : lv_has ls 4 [(0, .ref ax), (1, .int k)] := hl
  refine lv_iload_n hx hb dX4_isAtRim_0 rfl (lv_at hl 1 rfl) ?_
  refine lv_aload_n hx hb dX4_isAtRim_1 rfl (lv_at hl 0 rfl) ?_
  refine kget (v := .int (X 5)) C hP igX4 rfl 5 (by decide) wd_1_125 0 rfl rfl dX4_isAtRim_2 ?_
  refine go_i (ws' := [xc ax ar al at_ ah X]) C (rn_S (As := [.int k, .int (X 5)]) (rest := []) C (c_X4_quotient l D cI k (X 5) H.size) ck_X4_quotient wd_1_209 wd_1_208 ⟨Nat.le_of_ble_eq_true rfl, Nat.le_of_ble_eq_true rfl⟩ ⟨Nat.le_refl _, Nat.le_refl _⟩ hP hD hS [] rfl rfl hl rfl (Nat.le_of_ble_eq_true rfl) dX4_isAtRim_5) hP hD hS [] rfl rfl rfl (fun H locs hP hD hS => ?_)
  refine lv_istore_n (lv' := [(2, .int (r_X4_quotient k (X 5))), (0, .ref ax), (1, .int k)]) hx hb dX4_isAtRim_8 rfl hl (by decide) rfl (fun ls hl => ?_)
  refine lv_iload_n hx hb dX4_isAtRim_9 rfl (lv_at hl 2 rfl) ?_
  refine lv_iload_n hx hb dX4_isAtRim_10 rfl (lv_at hl 0 rfl) ?_
  refine lv_aload_n hx hb dX4_isAtRim_11 rfl (lv_at hl 1 rfl) ?_
  refine kget (v := .int (X 5)) C hP igX4 rfl 5 (by decide) wd_1_125 0 rfl rfl dX4_isAtRim_12 ?_
  refine lv_imul hx hb dX4_isAtRim_15 ?_
  refine lv_isub hx hb dX4_isAtRim_16 ?_
  refine lv_istore_n (lv' := [(3, .int (k - ((r_X4_quotient k (X 5)) * (X 5)))), (2, .int (r_X4_quotient k (X 5))), (0, .ref ax), (1, .int k)]) hx hb dX4_isAtRim_17 rfl hl (by decide) rfl (fun ls hl => ?_)
  refine lv_iload_n hx hb dX4_isAtRim_18 rfl (lv_at hl 1 rfl) ?_
  refine lv_if_eq (tgt := 46) hx hb dX4_isAtRim_19 (by decide) (fun c1 => ?_) (fun c1 => ?_)
  · refine lv_iconst (v := 1) hx hb dX4_isAtRim_46 (by decide) ?_
    refine lv_goto (tgt := 51) hx hb dX4_isAtRim_47 (by decide) ?_
    exact hend _ _ _ _ _ (by rw [← hr, r_X4_isAtRim, if_pos c1]) hP hS dX4_isAtRim_51
  · refine lv_iload_n hx hb dX4_isAtRim_22 rfl (lv_at hl 1 rfl) ?_
    refine lv_aload_n hx hb dX4_isAtRim_23 rfl (lv_at hl 2 rfl) ?_
    refine kget (v := .int (X 4)) C hP igX4 rfl 4 (by decide) wd_1_124 0 rfl rfl dX4_isAtRim_24 ?_
    refine lv_iconst (v := 1) hx hb dX4_isAtRim_27 (by decide) ?_
    refine lv_isub hx hb dX4_isAtRim_28 ?_
    refine lv_icmp_eq (tgt := 46) hx hb dX4_isAtRim_29 (by decide) (fun c2 => ?_) (fun c2 => ?_)
    · refine lv_iconst (v := 1) hx hb dX4_isAtRim_46 (by decide) ?_
      refine lv_goto (tgt := 51) hx hb dX4_isAtRim_47 (by decide) ?_
      exact hend _ _ _ _ _ (by rw [← hr, r_X4_isAtRim, if_neg c1, if_pos c2]) hP hS dX4_isAtRim_51
    · refine lv_iload_n hx hb dX4_isAtRim_32 rfl (lv_at hl 0 rfl) ?_
      refine lv_if_eq (tgt := 46) hx hb dX4_isAtRim_33 (by decide) (fun c3 => ?_) (fun c3 => ?_)
      · refine lv_iconst (v := 1) hx hb dX4_isAtRim_46 (by decide) ?_
        refine lv_goto (tgt := 51) hx hb dX4_isAtRim_47 (by decide) ?_
        exact hend _ _ _ _ _ (by rw [← hr, r_X4_isAtRim, if_neg c1, if_neg c2, if_pos c3]) hP hS dX4_isAtRim_51
      · refine lv_iload_n hx hb dX4_isAtRim_36 rfl (lv_at hl 0 rfl) ?_
        refine lv_aload_n hx hb dX4_isAtRim_37 rfl (lv_at hl 2 rfl) ?_
        refine kget (v := .int (X 5)) C hP igX4 rfl 5 (by decide) wd_1_125 0 rfl rfl dX4_isAtRim_38 ?_
        refine lv_iconst (v := 1) hx hb dX4_isAtRim_41 (by decide) ?_
        refine lv_isub hx hb dX4_isAtRim_42 ?_
        refine lv_icmp_ne (tgt := 50) hx hb dX4_isAtRim_43 (by decide) (fun c4 => ?_) (fun c4 => ?_)
        · refine lv_iconst (v := 0) hx hb dX4_isAtRim_50 (by decide) ?_
          exact hend _ _ _ _ _ (by rw [← hr, r_X4_isAtRim, if_neg c1, if_neg c2, if_neg c3, if_neg c4]) hP hS dX4_isAtRim_51
        · refine lv_iconst (v := 1) hx hb dX4_isAtRim_46 (by decide) ?_
          refine lv_goto (tgt := 51) hx hb dX4_isAtRim_47 (by decide) ?_
          exact hend _ _ _ _ _ (by rw [← hr, r_X4_isAtRim, if_neg c1, if_neg c2, if_neg c3, if_pos c4]) hP hS dX4_isAtRim_51
def r_X4_isMapped (p0 : Int32) (mn : Int32) : Int32 := (if (r_X4_within p0 0 5000) = 0 then 0 else (if (r_X4_within mn 1 100) = 0 then 0 else 1))
theorem ck_X4_isMapped : CK yX4_isMapped cX4_isMapped 2 (some .boolean) 2 := ⟨wd_2_120, wd_1_1, by decide, by decide, by decide +kernel⟩
theorem b_X4_isMapped (p0 : Int32) (mn : Int32) : (r_X4_isMapped p0 mn) = 0 ∨ (r_X4_isMapped p0 mn) = 1 := by
  unfold r_X4_isMapped
  repeat' split
  all_goals first | exact Or.inl rfl | exact Or.inr rfl | exact b_X4_within _ _ _
set_option maxHeartbeats 4000000 in
set_option maxRecDepth 100000 in
theorem c_X4_isMapped (l : Launch) (D : va_G) (cI : ClassId) (p0 : Int32) (mn : Int32) : MI l D cI yX4_isMapped cX4_isMapped 2 (some .boolean) 1 22 [.int p0, .int mn] [] (r_X4_isMapped p0 mn) [] := by
  have hn : narrow .boolean (.int (r_X4_isMapped p0 mn)) = .int (r_X4_isMapped p0 mn) := nb (b_X4_isMapped p0 mn)
  generalize hr : (r_X4_isMapped p0 mn) = r at hn ⊢
  refine MI.mk (own := RX4) rfl (by decide) hn (Nat.le_of_ble_eq_true rfl) ?_
  intro p e s m args below meth c A Q C hD hend H locs ls hP hS hl
  have hx := C.1.1
  have hb := C.1.2.1
  have hl : lv_has ls 2 [(0, .int p0), (1, .int mn)] := hl
  refine lv_iload_n hx hb dX4_isMapped_0 rfl (lv_at hl 0 rfl) ?_
  refine lv_iconst (v := 0) hx hb dX4_isMapped_1 (by decide) ?_
  refine lv_sipush (v := 5000) hx hb dX4_isMapped_2 (by decide) ?_
  refine go_i (ws' := []) C (rn_S (As := [.int p0, .int 0, .int 5000]) (rest := []) C (c_X4_within l D cI p0 0 5000 H.size) ck_X4_within wd_1_156 wd_1_155 ⟨Nat.le_of_ble_eq_true rfl, Nat.le_of_ble_eq_true rfl⟩ ⟨Nat.le_refl _, Nat.le_refl _⟩ hP hD hS [] rfl rfl hl rfl (Nat.le_of_ble_eq_true rfl) dX4_isMapped_5) hP hD hS [] rfl rfl rfl (fun H locs hP hD hS => ?_)
  refine lv_if_eq (tgt := 25) hx hb dX4_isMapped_8 (by decide) (fun c1 => ?_) (fun c1 => ?_)
  · refine lv_iconst (v := 0) hx hb dX4_isMapped_25 (by decide) ?_
    exact hend _ _ _ _ _ (by rw [← hr, r_X4_isMapped, if_pos c1]) hP hS dX4_isMapped_26
  · refine lv_iload_n hx hb dX4_isMapped_11 rfl (lv_at hl 1 rfl) ?_
    refine lv_iconst (v := 1) hx hb dX4_isMapped_12 (by decide) ?_
    refine lv_bipush (v := 100) hx hb dX4_isMapped_13 (by decide) ?_
    refine go_i (ws' := []) C (rn_S (As := [.int mn, .int 1, .int 100]) (rest := []) C (c_X4_within l D cI mn 1 100 H.size) ck_X4_within wd_1_156 wd_1_155 ⟨Nat.le_of_ble_eq_true rfl, Nat.le_of_ble_eq_true rfl⟩ ⟨Nat.le_refl _, Nat.le_refl _⟩ hP hD hS [] rfl rfl hl rfl (Nat.le_of_ble_eq_true rfl) dX4_isMapped_15) hP hD hS [] rfl rfl rfl (fun H locs hP hD hS => ?_)
    refine lv_if_eq (tgt := 25) hx hb dX4_isMapped_18 (by decide) (fun c2 => ?_) (fun c2 => ?_)
    · refine lv_iconst (v := 0) hx hb dX4_isMapped_25 (by decide) ?_
      exact hend _ _ _ _ _ (by rw [← hr, r_X4_isMapped, if_neg c1, if_pos c2]) hP hS dX4_isMapped_26
    · refine lv_iconst (v := 1) hx hb dX4_isMapped_21 (by decide) ?_
      refine lv_goto (tgt := 26) hx hb dX4_isMapped_22 (by decide) ?_
      exact hend _ _ _ _ _ (by rw [← hr, r_X4_isMapped, if_neg c1, if_neg c2]) hP hS dX4_isMapped_26
def r_X4_shelf (X : Nat → Int32) (rw : Int32) (cl : Int32) : Int32 := (if (r_X4_within rw 1 4) = 0 then (-2) else (if (r_X4_within cl 1 6) = 0 then (-2) else (if (X 8) = 0 then (r_X4_places (x10 rw cl (X 6) (X 7) (X 8) (X 9))) else (-3))))
def q_X4_shelf_X (X : Nat → Int32) (rw : Int32) (cl : Int32) : Nat → Int32 := (if (r_X4_within rw 1 4) = 0 then X else (if (r_X4_within cl 1 6) = 0 then X else (if (X 8) = 0 then (x10 rw cl (X 6) (X 7) (X 8) (X 9)) else X)))
theorem ck_X4_shelf : CK yX4_shelf cX4_shelf 3 (some .int) 2 := ⟨wd_1_154, wd_1_1, by decide, by decide, by decide +kernel⟩
set_option maxHeartbeats 4000000 in
set_option maxRecDepth 100000 in
theorem c_X4_shelf (l : Launch) (D : va_G) (cI : ClassId) (ax : Nat) (ar : Nat) (al : Nat) (at_ : Nat) (ah : Nat) (X : Nat → Int32) (rw : Int32) (cl : Int32) : MI l D cI yX4_shelf cX4_shelf 3 (some .int) 1 22 [.ref ax, .int rw, .int cl] [xc ax ar al at_ ah X] (r_X4_shelf X rw cl) [xc ax ar al at_ ah (q_X4_shelf_X X rw cl)] := by
  generalize hr : (r_X4_shelf X rw cl) = r
  generalize ho_X : (q_X4_shelf_X X rw cl) = o_X
  refine MI.mk (own := RX4) rfl (by decide) rfl (Nat.le_of_ble_eq_true rfl) ?_
  intro p e s m args below meth c A Q C hD hend H locs ls hP hS hl
  have hx := C.1.1
  have hb := C.1.2.1
  have hl : lv_has ls 3 [(0, .ref ax), (1, .int rw), (2, .int cl)] := hl
  refine lv_iload_n hx hb dX4_shelf_0 rfl (lv_at hl 1 rfl) ?_
  refine lv_iconst (v := 1) hx hb dX4_shelf_1 (by decide) ?_
  refine lv_iconst (v := 4) hx hb dX4_shelf_2 (by decide) ?_
  refine go_i (ws' := [xc ax ar al at_ ah X]) C (rn_S (As := [.int rw, .int 1, .int 4]) (rest := []) C (c_X4_within l D cI rw 1 4 H.size) ck_X4_within wd_1_156 wd_1_155 ⟨Nat.le_of_ble_eq_true rfl, Nat.le_of_ble_eq_true rfl⟩ ⟨Nat.le_refl _, Nat.le_refl _⟩ hP hD hS [] rfl rfl hl rfl (Nat.le_of_ble_eq_true rfl) dX4_shelf_3) hP hD hS [] rfl rfl rfl (fun H locs hP hD hS => ?_)
  refine lv_if_eq (tgt := 19) hx hb dX4_shelf_6 (by decide) (fun c1 => ?_) (fun c1 => ?_)
  · refine lv_bipush (v := (-2)) hx hb dX4_shelf_19 (by decide) ?_
    exact hend _ _ _ _ _ (by rw [← hr, r_X4_shelf, if_pos c1]) (by rw [← ho_X, q_X4_shelf_X, if_pos c1]; exact hP) hS dX4_shelf_21
  · refine lv_iload_n hx hb dX4_shelf_9 rfl (lv_at hl 2 rfl) ?_
    refine lv_iconst (v := 1) hx hb dX4_shelf_10 (by decide) ?_
    refine lv_bipush (v := 6) hx hb dX4_shelf_11 (by decide) ?_
    refine go_i (ws' := [xc ax ar al at_ ah X]) C (rn_S (As := [.int cl, .int 1, .int 6]) (rest := []) C (c_X4_within l D cI cl 1 6 H.size) ck_X4_within wd_1_156 wd_1_155 ⟨Nat.le_of_ble_eq_true rfl, Nat.le_of_ble_eq_true rfl⟩ ⟨Nat.le_refl _, Nat.le_refl _⟩ hP hD hS [] rfl rfl hl rfl (Nat.le_of_ble_eq_true rfl) dX4_shelf_13) hP hD hS [] rfl rfl rfl (fun H locs hP hD hS => ?_)
    refine lv_if_ne (tgt := 22) hx hb dX4_shelf_16 (by decide) (fun c2 => ?_) (fun c2 => ?_)
    · refine lv_aload_n hx hb dX4_shelf_22 rfl (lv_at hl 0 rfl) ?_
      refine kget (v := .int (X 8)) C hP igX4 rfl 8 (by decide) wd_1_128 0 rfl rfl dX4_shelf_23 ?_
      refine lv_if_eq (tgt := 32) hx hb dX4_shelf_26 (by decide) (fun c3 => ?_) (fun c3 => ?_)
      · refine lv_aload_n hx hb dX4_shelf_32 rfl (lv_at hl 0 rfl) ?_
        refine lv_iload_n hx hb dX4_shelf_33 rfl (lv_at hl 1 rfl) ?_
        refine kput (ty := .int) (ws' := [xc ax ar al at_ ah (x10 rw (X 5) (X 6) (X 7) (X 8) (X 9))]) C hP hD hS igX4 tyX4_ok nmX4 rfl 4 (by decide) wd_1_124 rfl rfl rfl rfl 0 rfl (Nat.le_of_ble_eq_true rfl) rfl dX4_shelf_34 (fun H locs hP hD hS => ?_)
        refine lv_aload_n hx hb dX4_shelf_37 rfl (lv_at hl 0 rfl) ?_
        refine lv_iload_n hx hb dX4_shelf_38 rfl (lv_at hl 2 rfl) ?_
        refine kput (ty := .int) (ws' := [xc ax ar al at_ ah (x10 rw cl (X 6) (X 7) (X 8) (X 9))]) C hP hD hS igX4 tyX4_ok nmX4 rfl 5 (by decide) wd_1_125 rfl rfl rfl rfl 0 rfl (Nat.le_of_ble_eq_true rfl) rfl dX4_shelf_39 (fun H locs hP hD hS => ?_)
        refine lv_aload_n hx hb dX4_shelf_42 rfl (lv_at hl 0 rfl) ?_
        refine go_i (ws' := [xc ax ar al at_ ah (x10 rw cl (X 6) (X 7) (X 8) (X 9))]) C (rn_V (As := []) (rest := []) C (c_X4_places l D cI ax ar al at_ ah (x10 rw cl (X 6) (X 7) (X 8) (X 9)) H.size) ck_X4_places wd_1_160 wd_0_0 wd_1_158 ⟨Nat.le_of_ble_eq_true rfl, Nat.le_of_ble_eq_true rfl⟩ ⟨Nat.le_refl _, Nat.le_refl _⟩ (ci := 4) (q0 := 0) rfl rfl hP hD hS [0] rfl rfl hl rfl (Nat.le_of_ble_eq_true rfl) dX4_shelf_43) hP hD hS [0] rfl rfl rfl (fun H locs hP hD hS => ?_)
        exact hend _ _ _ _ _ (by rw [← hr, r_X4_shelf, if_neg c1, if_neg c2, if_pos c3]) (by rw [← ho_X, q_X4_shelf_X, if_neg c1, if_neg c2, if_pos c3]; exact hP) hS dX4_shelf_46
      · refine lv_bipush (v := (-3)) hx hb dX4_shelf_29 (by decide) ?_
        exact hend _ _ _ _ _ (by rw [← hr, r_X4_shelf, if_neg c1, if_neg c2, if_neg c3]) (by rw [← ho_X, q_X4_shelf_X, if_neg c1, if_neg c2, if_neg c3]; exact hP) hS dX4_shelf_31
    · refine lv_bipush (v := (-2)) hx hb dX4_shelf_19 (by decide) ?_
      exact hend _ _ _ _ _ (by rw [← hr, r_X4_shelf, if_neg c1, if_pos c2]) (by rw [← ho_X, q_X4_shelf_X, if_neg c1, if_pos c2]; exact hP) hS dX4_shelf_21
def r_X4_rule (X : Nat → Int32) (R : Nat → Int32) (k : Int32) (v : Int32) : Int32 := (if (r_X3_has k) = 0 then (-10001) else (if (r_X3_allows k v) = 0 then (-10002) else (if (X 8) = 0 then (r_X3_change R k v) else (-10003))))
def q_X4_rule_R (X : Nat → Int32) (R : Nat → Int32) (k : Int32) (v : Int32) : Nat → Int32 := (if (r_X3_has k) = 0 then R else (if (r_X3_allows k v) = 0 then R else (if (X 8) = 0 then (q_X3_change_R R k v) else R)))
theorem ck_X4_rule : CK yX4_rule cX4_rule 3 (some .int) 2 := ⟨wd_1_165, wd_1_1, by decide, by decide, by decide +kernel⟩
set_option maxHeartbeats 4000000 in
set_option maxRecDepth 100000 in
theorem c_X4_rule (l : Launch) (D : va_G) (cI : ClassId) (ax : Nat) (ar : Nat) (al : Nat) (at_ : Nat) (ah : Nat) (X : Nat → Int32) (av : Nat) (R : Nat → Int32) (k : Int32) (v : Int32) : MI l D cI yX4_rule cX4_rule 3 (some .int) 4 86 [.ref ax, .int k, .int v] [xc ax ar al at_ ah X, rc ar av, ac cI av 11 R] (r_X4_rule X R k v) [xc ax ar al at_ ah X, rc ar av, ac cI av 11 (q_X4_rule_R X R k v)] := by
  generalize hr : (r_X4_rule X R k v) = r
  generalize ho_R : (q_X4_rule_R X R k v) = o_R
  refine MI.mk (own := RX4) rfl (by decide) rfl (Nat.le_of_ble_eq_true rfl) ?_
  intro p e s m args below meth c A Q C hD hend H locs ls hP hS hl
  have hx := C.1.1
  have hb := C.1.2.1
  have hl : lv_has ls 3 [(0, .ref ax), (1, .int k), (2, .int v)] := hl
  refine lv_iload_n hx hb dX4_rule_0 rfl (lv_at hl 1 rfl) ?_
  refine go_i (ws' := [xc ax ar al at_ ah X, rc ar av, ac cI av 11 R]) C (rn_S (As := [.int k]) (rest := []) C (c_X3_has l D cI k H.size) ck_X3_has wd_1_167 wd_1_166 ⟨Nat.le_of_ble_eq_true rfl, Nat.le_of_ble_eq_true rfl⟩ ⟨Nat.le_refl _, Nat.le_refl _⟩ hP hD hS [] rfl rfl hl rfl (Nat.le_of_ble_eq_true rfl) dX4_rule_1) hP hD hS [] rfl rfl rfl (fun H locs hP hD hS => ?_)
  refine lv_if_ne (tgt := 11) hx hb dX4_rule_4 (by decide) (fun c1 => ?_) (fun c1 => ?_)
  · refine lv_iload_n hx hb dX4_rule_11 rfl (lv_at hl 1 rfl) ?_
    refine lv_iload_n hx hb dX4_rule_12 rfl (lv_at hl 2 rfl) ?_
    refine go_i (ws' := [xc ax ar al at_ ah X, rc ar av, ac cI av 11 R]) C (rn_S (As := [.int k, .int v]) (rest := []) C (c_X3_allows l D cI k v H.size) ck_X3_allows wd_1_171 wd_1_170 ⟨Nat.le_of_ble_eq_true rfl, Nat.le_of_ble_eq_true rfl⟩ ⟨Nat.le_refl _, Nat.le_refl _⟩ hP hD hS [] rfl rfl hl rfl (Nat.le_of_ble_eq_true rfl) dX4_rule_13) hP hD hS [] rfl rfl rfl (fun H locs hP hD hS => ?_)
    refine lv_if_ne (tgt := 23) hx hb dX4_rule_16 (by decide) (fun c2 => ?_) (fun c2 => ?_)
    · refine lv_aload_n hx hb dX4_rule_23 rfl (lv_at hl 0 rfl) ?_
      refine kget (v := .int (X 8)) C hP igX4 rfl 8 (by decide) wd_1_128 0 rfl rfl dX4_rule_24 ?_
      refine lv_if_eq (tgt := 34) hx hb dX4_rule_27 (by decide) (fun c3 => ?_) (fun c3 => ?_)
      · refine lv_aload_n hx hb dX4_rule_34 rfl (lv_at hl 0 rfl) ?_
        refine kget (v := .ref ar) C hP igX4 rfl 0 (by decide) wd_1_120 0 rfl rfl dX4_rule_35 ?_
        refine lv_iload_n hx hb dX4_rule_38 rfl (lv_at hl 1 rfl) ?_
        refine lv_iload_n hx hb dX4_rule_39 rfl (lv_at hl 2 rfl) ?_
        refine go_i (ws' := [xc ax ar al at_ ah X, rc ar av, ac cI av 11 (q_X3_change_R R k v)]) C (rn_V (As := [.int k, .int v]) (rest := []) C (c_X3_change l D cI ar av R k v H.size) ck_X3_change wd_1_179 wd_1_180 wd_1_178 ⟨Nat.le_of_ble_eq_true rfl, Nat.le_of_ble_eq_true rfl⟩ ⟨Nat.le_refl _, Nat.le_refl _⟩ (ci := 3) (q0 := 1) rfl rfl hP hD hS [1, 2] rfl rfl hl rfl (Nat.le_of_ble_eq_true rfl) dX4_rule_40) hP hD hS [1, 2] rfl rfl rfl (fun H locs hP hD hS => ?_)
        exact hend _ _ _ _ _ (by rw [← hr, r_X4_rule, if_neg c1, if_neg c2, if_pos c3]) (by rw [← ho_R, q_X4_rule_R, if_neg c1, if_neg c2, if_pos c3]; exact hP) hS dX4_rule_43
      · refine lv_sipush (v := (-10003)) hx hb dX4_rule_30 (by decide) ?_
        exact hend _ _ _ _ _ (by rw [← hr, r_X4_rule, if_neg c1, if_neg c2, if_neg c3]) (by rw [← ho_R, q_X4_rule_R, if_neg c1, if_neg c2, if_neg c3]; exact hP) hS dX4_rule_33
    · refine lv_sipush (v := (-10002)) hx hb dX4_rule_19 (by decide) ?_
      exact hend _ _ _ _ _ (by rw [← hr, r_X4_rule, if_neg c1, if_pos c2]) (by rw [← ho_R, q_X4_rule_R, if_neg c1, if_pos c2]; exact hP) hS dX4_rule_22
  · refine lv_sipush (v := (-10001)) hx hb dX4_rule_7 (by decide) ?_
    exact hend _ _ _ _ _ (by rw [← hr, r_X4_rule, if_pos c1]) (by rw [← ho_R, q_X4_rule_R, if_pos c1]; exact hP) hS dX4_rule_10
def r_X4_vapour (t : Int32) : Int32 := (if (r_X4_within t (-600) 0) = 0 then (-2) else (r_X4_vapourAt t))
theorem ck_X4_vapour : CK yX4_vapour cX4_vapour 2 (some .int) 1 := ⟨wd_1_190, wd_1_1, by decide, by decide, by decide +kernel⟩
set_option maxHeartbeats 4000000 in
set_option maxRecDepth 100000 in
theorem c_X4_vapour (l : Launch) (D : va_G) (cI : ClassId) (ax : Nat) (t : Int32) : MI l D cI yX4_vapour cX4_vapour 2 (some .int) 1 27 [.ref ax, .int t] [] (r_X4_vapour t) [] := by
  generalize hr : (r_X4_vapour t) = r
  refine MI.mk (own := RX4) rfl (by decide) rfl (Nat.le_of_ble_eq_true rfl) ?_
  intro p e s m args below meth c A Q C hD hend H locs ls hP hS hl
  have hx := C.1.1
  have hb := C.1.2.1
  have hl : lv_has ls 2 [(0, .ref ax), (1, .int t)] := hl
  refine lv_iload_n hx hb dX4_vapour_0 rfl (lv_at hl 1 rfl) ?_
  refine lv_sipush (v := (-600)) hx hb dX4_vapour_1 (by decide) ?_
  refine lv_iconst (v := 0) hx hb dX4_vapour_4 (by decide) ?_
  refine go_i (ws' := []) C (rn_S (As := [.int t, .int (-600), .int 0]) (rest := []) C (c_X4_within l D cI t (-600) 0 H.size) ck_X4_within wd_1_156 wd_1_155 ⟨Nat.le_of_ble_eq_true rfl, Nat.le_of_ble_eq_true rfl⟩ ⟨Nat.le_refl _, Nat.le_refl _⟩ hP hD hS [] rfl rfl hl rfl (Nat.le_of_ble_eq_true rfl) dX4_vapour_5) hP hD hS [] rfl rfl rfl (fun H locs hP hD hS => ?_)
  refine lv_if_eq (tgt := 18) hx hb dX4_vapour_8 (by decide) (fun c1 => ?_) (fun c1 => ?_)
  · refine lv_bipush (v := (-2)) hx hb dX4_vapour_18 (by decide) ?_
    exact hend _ _ _ _ _ (by rw [← hr, r_X4_vapour, if_pos c1]) hP hS dX4_vapour_20
  · refine lv_iload_n hx hb dX4_vapour_11 rfl (lv_at hl 1 rfl) ?_
    refine go_i (ws' := []) C (rn_S (As := [.int t]) (rest := []) C (c_X4_vapourAt l D cI t H.size) ck_X4_vapourAt wd_1_192 wd_1_191 ⟨Nat.le_of_ble_eq_true rfl, Nat.le_of_ble_eq_true rfl⟩ ⟨Nat.le_refl _, Nat.le_refl _⟩ hP hD hS [] rfl rfl hl rfl (Nat.le_of_ble_eq_true rfl) dX4_vapour_12) hP hD hS [] rfl rfl rfl (fun H locs hP hD hS => ?_)
    refine lv_goto (tgt := 20) hx hb dX4_vapour_15 (by decide) ?_
    exact hend _ _ _ _ _ (by rw [← hr, r_X4_vapour, if_neg c1]) hP hS dX4_vapour_20
def r_X4_steam (R : Nat → Int32) (t : Int32) (dd : Int32) (p0 : Int32) : Int32 := (if (r_X4_within t (-600) 0) = 0 then (-2) else (if (r_X4_within dd 0 100) = 0 then (-2) else (if (r_X4_within p0 0 20000) = 0 then (-2) else (r_X4_steamAt t (r_X3_bars R dd) p0))))
theorem ck_X4_steam : CK yX4_steam cX4_steam 4 (some .int) 3 := ⟨wd_1_197, wd_1_1, by decide, by decide, by decide +kernel⟩
set_option maxHeartbeats 4000000 in
set_option maxRecDepth 100000 in
theorem c_X4_steam (l : Launch) (D : va_G) (cI : ClassId) (ax : Nat) (ar : Nat) (al : Nat) (at_ : Nat) (ah : Nat) (X : Nat → Int32) (av : Nat) (R : Nat → Int32) (t : Int32) (dd : Int32) (p0 : Int32) : MI l D cI yX4_steam cX4_steam 4 (some .int) 2 49 [.ref ax, .int t, .int dd, .int p0] [xc ax ar al at_ ah X, rc ar av, ac cI av 11 R] (r_X4_steam R t dd p0) [xc ax ar al at_ ah X, rc ar av, ac cI av 11 R] := by
  generalize hr : (r_X4_steam R t dd p0) = r
  refine MI.mk (own := RX4) rfl (by decide) rfl (Nat.le_of_ble_eq_true rfl) ?_
  intro p e s m args below meth c A Q C hD hend H locs ls hP hS hl
  have hx := C.1.1
  have hb := C.1.2.1
  have hl : lv_has ls 4 [(0, .ref ax), (1, .int t), (2, .int dd), (3, .int p0)] := hl
  refine lv_iload_n hx hb dX4_steam_0 rfl (lv_at hl 1 rfl) ?_
  refine lv_sipush (v := (-600)) hx hb dX4_steam_1 (by decide) ?_
  refine lv_iconst (v := 0) hx hb dX4_steam_4 (by decide) ?_
  refine go_i (ws' := [xc ax ar al at_ ah X, rc ar av, ac cI av 11 R]) C (rn_S (As := [.int t, .int (-600), .int 0]) (rest := []) C (c_X4_within l D cI t (-600) 0 H.size) ck_X4_within wd_1_156 wd_1_155 ⟨Nat.le_of_ble_eq_true rfl, Nat.le_of_ble_eq_true rfl⟩ ⟨Nat.le_refl _, Nat.le_refl _⟩ hP hD hS [] rfl rfl hl rfl (Nat.le_of_ble_eq_true rfl) dX4_steam_5) hP hD hS [] rfl rfl rfl (fun H locs hP hD hS => ?_)
  refine lv_if_eq (tgt := 32) hx hb dX4_steam_8 (by decide) (fun c1 => ?_) (fun c1 => ?_)
  · refine lv_bipush (v := (-2)) hx hb dX4_steam_32 (by decide) ?_
    exact hend _ _ _ _ _ (by rw [← hr, r_X4_steam, if_pos c1]) hP hS dX4_steam_34
  · refine lv_iload_n hx hb dX4_steam_11 rfl (lv_at hl 2 rfl) ?_
    refine lv_iconst (v := 0) hx hb dX4_steam_12 (by decide) ?_
    refine lv_bipush (v := 100) hx hb dX4_steam_13 (by decide) ?_
    refine go_i (ws' := [xc ax ar al at_ ah X, rc ar av, ac cI av 11 R]) C (rn_S (As := [.int dd, .int 0, .int 100]) (rest := []) C (c_X4_within l D cI dd 0 100 H.size) ck_X4_within wd_1_156 wd_1_155 ⟨Nat.le_of_ble_eq_true rfl, Nat.le_of_ble_eq_true rfl⟩ ⟨Nat.le_refl _, Nat.le_refl _⟩ hP hD hS [] rfl rfl hl rfl (Nat.le_of_ble_eq_true rfl) dX4_steam_15) hP hD hS [] rfl rfl rfl (fun H locs hP hD hS => ?_)
    refine lv_if_eq (tgt := 32) hx hb dX4_steam_18 (by decide) (fun c2 => ?_) (fun c2 => ?_)
    · refine lv_bipush (v := (-2)) hx hb dX4_steam_32 (by decide) ?_
      exact hend _ _ _ _ _ (by rw [← hr, r_X4_steam, if_neg c1, if_pos c2]) hP hS dX4_steam_34
    · refine lv_iload_n hx hb dX4_steam_21 rfl (lv_at hl 3 rfl) ?_
      refine lv_iconst (v := 0) hx hb dX4_steam_22 (by decide) ?_
      refine lv_sipush (v := 20000) hx hb dX4_steam_23 (by decide) ?_
      refine go_i (ws' := [xc ax ar al at_ ah X, rc ar av, ac cI av 11 R]) C (rn_S (As := [.int p0, .int 0, .int 20000]) (rest := []) C (c_X4_within l D cI p0 0 20000 H.size) ck_X4_within wd_1_156 wd_1_155 ⟨Nat.le_of_ble_eq_true rfl, Nat.le_of_ble_eq_true rfl⟩ ⟨Nat.le_refl _, Nat.le_refl _⟩ hP hD hS [] rfl rfl hl rfl (Nat.le_of_ble_eq_true rfl) dX4_steam_26) hP hD hS [] rfl rfl rfl (fun H locs hP hD hS => ?_)
      refine lv_if_ne (tgt := 35) hx hb dX4_steam_29 (by decide) (fun c3 => ?_) (fun c3 => ?_)
      · refine lv_iload_n hx hb dX4_steam_35 rfl (lv_at hl 1 rfl) ?_
        refine lv_aload_n hx hb dX4_steam_36 rfl (lv_at hl 0 rfl) ?_
        refine kget (v := .ref ar) C hP igX4 rfl 0 (by decide) wd_1_120 0 rfl rfl dX4_steam_37 ?_
        refine lv_iload_n hx hb dX4_steam_40 rfl (lv_at hl 2 rfl) ?_
        refine go_i (ws' := [xc ax ar al at_ ah X, rc ar av, ac cI av 11 R]) C (rn_V (As := [.int dd]) (rest := [.int t]) C (c_X3_bars l D cI ar av R dd H.size) ck_X3_bars wd_1_199 wd_1_200 wd_1_198 ⟨Nat.le_of_ble_eq_true rfl, Nat.le_of_ble_eq_true rfl⟩ ⟨Nat.le_refl _, Nat.le_refl _⟩ (ci := 3) (q0 := 1) rfl rfl hP hD hS [1, 2] rfl rfl hl rfl (Nat.le_of_ble_eq_true rfl) dX4_steam_41) hP hD hS [1, 2] rfl rfl rfl (fun H locs hP hD hS => ?_)
        refine lv_iload_n hx hb dX4_steam_44 rfl (lv_at hl 3 rfl) ?_
        refine go_i (ws' := [xc ax ar al at_ ah X, rc ar av, ac cI av 11 R]) C (rn_S (As := [.int t, .int (r_X3_bars R dd), .int p0]) (rest := []) C (c_X4_steamAt l D cI t (r_X3_bars R dd) p0 H.size) ck_X4_steamAt wd_1_203 wd_1_202 ⟨Nat.le_of_ble_eq_true rfl, Nat.le_of_ble_eq_true rfl⟩ ⟨Nat.le_refl _, Nat.le_refl _⟩ hP hD hS [] rfl rfl hl rfl (Nat.le_of_ble_eq_true rfl) dX4_steam_45) hP hD hS [] rfl rfl rfl (fun H locs hP hD hS => ?_)
        exact hend _ _ _ _ _ (by rw [← hr, r_X4_steam, if_neg c1, if_neg c2, if_neg c3]) hP hS dX4_steam_48
      · refine lv_bipush (v := (-2)) hx hb dX4_steam_32 (by decide) ?_
        exact hend _ _ _ _ _ (by rw [← hr, r_X4_steam, if_neg c1, if_neg c2, if_pos c3]) hP hS dX4_steam_34
def r_X4_rim (X : Nat → Int32) (k : Int32) : Int32 := (if (r_X4_within k 0 ((r_X4_places X) - 1)) = 0 then (-1) else (if (r_X4_isAtRim X k) = 0 then 0 else 1))
theorem ck_X4_rim : CK yX4_rim cX4_rim 2 (some .int) 1 := ⟨wd_1_214, wd_1_1, by decide, by decide, by decide +kernel⟩
set_option maxHeartbeats 4000000 in
set_option maxRecDepth 100000 in
theorem c_X4_rim (l : Launch) (D : va_G) (cI : ClassId) (ax : Nat) (ar : Nat) (al : Nat) (at_ : Nat) (ah : Nat) (X : Nat → Int32) (k : Int32) : MI l D cI yX4_rim cX4_rim 2 (some .int) 2 44 [.ref ax, .int k] [xc ax ar al at_ ah X] (r_X4_rim X k) [xc ax ar al at_ ah X] := by
  generalize hr : (r_X4_rim X k) = r
  refine MI.mk (own := RX4) rfl (by decide) rfl (Nat.le_of_ble_eq_true rfl) ?_
  intro p e s m args below meth c A Q C hD hend H locs ls hP hS hl
  have hx := C.1.1
  have hb := C.1.2.1
  have hl : lv_has ls 2 [(0, .ref ax), (1, .int k)] := hl
  refine lv_iload_n hx hb dX4_rim_0 rfl (lv_at hl 1 rfl) ?_
  refine lv_iconst (v := 0) hx hb dX4_rim_1 (by decide) ?_
  refine lv_aload_n hx hb dX4_rim_2 rfl (lv_at hl 0 rfl) ?_
  refine go_i (ws' := [xc ax ar al at_ ah X]) C (rn_V (As := []) (rest := [.int 0, .int k]) C (c_X4_places l D cI ax ar al at_ ah X H.size) ck_X4_places wd_1_160 wd_0_0 wd_1_158 ⟨Nat.le_of_ble_eq_true rfl, Nat.le_of_ble_eq_true rfl⟩ ⟨Nat.le_refl _, Nat.le_refl _⟩ (ci := 4) (q0 := 0) rfl rfl hP hD hS [0] rfl rfl hl rfl (Nat.le_of_ble_eq_true rfl) dX4_rim_3) hP hD hS [0] rfl rfl rfl (fun H locs hP hD hS => ?_)
  refine lv_iconst (v := 1) hx hb dX4_rim_6 (by decide) ?_
  refine lv_isub hx hb dX4_rim_7 ?_
  refine go_i (ws' := [xc ax ar al at_ ah X]) C (rn_S (As := [.int k, .int 0, .int ((r_X4_places X) - 1)]) (rest := []) C (c_X4_within l D cI k 0 ((r_X4_places X) - 1) H.size) ck_X4_within wd_1_156 wd_1_155 ⟨Nat.le_of_ble_eq_true rfl, Nat.le_of_ble_eq_true rfl⟩ ⟨Nat.le_refl _, Nat.le_refl _⟩ hP hD hS [] rfl rfl hl rfl (Nat.le_of_ble_eq_true rfl) dX4_rim_8) hP hD hS [] rfl rfl rfl (fun H locs hP hD hS => ?_)
  refine lv_if_ne (tgt := 16) hx hb dX4_rim_11 (by decide) (fun c1 => ?_) (fun c1 => ?_)
  · refine lv_aload_n hx hb dX4_rim_16 rfl (lv_at hl 0 rfl) ?_
    refine lv_iload_n hx hb dX4_rim_17 rfl (lv_at hl 1 rfl) ?_
    refine go_i (ws' := [xc ax ar al at_ ah X]) C (rn_V (As := [.int k]) (rest := []) C (c_X4_isAtRim l D cI ax ar al at_ ah X k H.size) ck_X4_isAtRim wd_1_217 wd_0_1 wd_1_215 ⟨Nat.le_of_ble_eq_true rfl, Nat.le_of_ble_eq_true rfl⟩ ⟨Nat.le_refl _, Nat.le_refl _⟩ (ci := 4) (q0 := 0) rfl rfl hP hD hS [0] rfl rfl hl rfl (Nat.le_of_ble_eq_true rfl) dX4_rim_18) hP hD hS [0] rfl rfl rfl (fun H locs hP hD hS => ?_)
    refine lv_if_eq (tgt := 28) hx hb dX4_rim_21 (by decide) (fun c2 => ?_) (fun c2 => ?_)
    · refine lv_iconst (v := 0) hx hb dX4_rim_28 (by decide) ?_
      exact hend _ _ _ _ _ (by rw [← hr, r_X4_rim, if_neg c1, if_pos c2]) hP hS dX4_rim_29
    · refine lv_iconst (v := 1) hx hb dX4_rim_24 (by decide) ?_
      refine lv_goto (tgt := 29) hx hb dX4_rim_25 (by decide) ?_
      exact hend _ _ _ _ _ (by rw [← hr, r_X4_rim, if_neg c1, if_neg c2]) hP hS dX4_rim_29
  · refine lv_iconst (v := (-1)) hx hb dX4_rim_14 (by decide) ?_
    exact hend _ _ _ _ _ (by rw [← hr, r_X4_rim, if_pos c1]) hP hS dX4_rim_15
def r_X4_load (X : Nat → Int32) : Int32 := (if (X 8) = 0 then (r_X4_places (x10 (X 4) (X 5) (X 6) (X 7) 1 (X 9))) else (-3))
def q_X4_load_X (X : Nat → Int32) : Nat → Int32 := (if (X 8) = 0 then (x10 (X 4) (X 5) (X 6) (X 7) 1 (X 9)) else X)
def q_X4_load_L (X : Nat → Int32) (L : Nat → Int32) : Nat → Int32 := (if (X 8) = 0 then (q_X2_start_L (X 7)) else L)
def q_X4_load_G (X : Nat → Int32) (R : Nat → Int32) (G : Nat → Int32) : Nat → Int32 := (if (X 8) = 0 then (q_X2_start_G R (X 4) (X 5)) else G)
def q_X4_load_I (X : Nat → Int32) (R : Nat → Int32) (I : Nat → Int32) : Nat → Int32 := (if (X 8) = 0 then (q_X2_start_I R (X 4) (X 5)) else I)
def q_X4_load_o1 (X : Nat → Int32) (o1 : Nat → Int32) : Nat → Int32 := (if (X 8) = 0 then (q_X1_note_o1 o1 (q_X2_start_L (X 7))) else o1)
def q_X4_load_o2 (X : Nat → Int32) (R : Nat → Int32) (o2 : Nat → Int32) : Nat → Int32 := (if (X 8) = 0 then (q_X1_note_o2 o2 (q_X2_start_L (X 7)) R) else o2)
def q_X4_load_o3 (X : Nat → Int32) (R : Nat → Int32) (o3 : Nat → Int32) : Nat → Int32 := (if (X 8) = 0 then (q_X1_note_o3 o3 (q_X2_start_L (X 7)) (q_X2_start_G R (X 4) (X 5)) (q_X2_start_I R (X 4) (X 5))) else o3)
theorem ck_X4_load : CK yX4_load cX4_load 1 (some .int) 0 := ⟨wd_1_222, wd_1_1, by decide, by decide, by decide +kernel⟩
set_option maxHeartbeats 4000000 in
set_option maxRecDepth 100000 in
theorem c_X4_load (l : Launch) (D : va_G) (cI : ClassId) (ax : Nat) (ar : Nat) (al : Nat) (at_ : Nat) (ah : Nat) (X : Nat → Int32) (av : Nat) (R : Nat → Int32) (ag : Nat) (ai : Nat) (L : Nat → Int32) (G : Nat → Int32) (I : Nat → Int32) (a1 : Nat) (a2 : Nat) (a3 : Nat) (o1 : Nat → Int32) (o2 : Nat → Int32) (o3 : Nat → Int32) : MI l D cI yX4_load cX4_load 1 (some .int) 5 108 [.ref ax] [xc ax ar al at_ ah X, rc ar av, ac cI av 11 R, lc al ag ai L, gc ag G, gc ai I, hc ah a1 a2 a3, ac cI a1 2001 o1, ac cI a2 2001 o2, ac cI a3 2001 o3] (r_X4_load X) [xc ax ar al at_ ah (q_X4_load_X X), rc ar av, ac cI av 11 R, lc al ag ai (q_X4_load_L X L), gc ag (q_X4_load_G X R G), gc ai (q_X4_load_I X R I), hc ah a1 a2 a3, ac cI a1 2001 (q_X4_load_o1 X o1), ac cI a2 2001 (q_X4_load_o2 X R o2), ac cI a3 2001 (q_X4_load_o3 X R o3)] := by
  generalize hr : (r_X4_load X) = r
  generalize ho_X : (q_X4_load_X X) = o_X
  generalize ho_L : (q_X4_load_L X L) = o_L
  generalize ho_G : (q_X4_load_G X R G) = o_G
  generalize ho_I : (q_X4_load_I X R I) = o_I
  generalize ho_o1 : (q_X4_load_o1 X o1) = o_o1
  generalize ho_o2 : (q_X4_load_o2 X R o2) = o_o2
  generalize ho_o3 : (q_X4_load_o3 X R o3) = o_o3
  refine MI.mk (own := RX4) rfl (by decide) rfl (Nat.le_of_ble_eq_true rfl) ?_
  intro p e s m args below meth c A Q C hD hend H locs ls hP hS hl
  have hx := C.1.1
  have hb := C.1.2.1
  have hl : lv_has ls 1 [(0, .ref ax)] := hl
  refine lv_aload_n hx hb dX4_load_0 rfl (lv_at hl 0 rfl) ?_
  refine kget (v := .int (X 8)) C hP igX4 rfl 8 (by decide) wd_1_128 0 rfl rfl dX4_load_1 ?_
  refine lv_if_eq (tgt := 10) hx hb dX4_load_4 (by decide) (fun c1 => ?_) (fun c1 => ?_)
  · refine lv_aload_n hx hb dX4_load_10 rfl (lv_at hl 0 rfl) ?_
    refine kget (v := .ref al) C hP igX4 rfl 1 (by decide) wd_1_121 0 rfl rfl dX4_load_11 ?_
    refine lv_aload_n hx hb dX4_load_14 rfl (lv_at hl 0 rfl) ?_
    refine kget (v := .ref ar) C hP igX4 rfl 0 (by decide) wd_1_120 0 rfl rfl dX4_load_15 ?_
    refine lv_aload_n hx hb dX4_load_18 rfl (lv_at hl 0 rfl) ?_
    refine kget (v := .int (X 4)) C hP igX4 rfl 4 (by decide) wd_1_124 0 rfl rfl dX4_load_19 ?_
    refine lv_aload_n hx hb dX4_load_22 rfl (lv_at hl 0 rfl) ?_
    refine kget (v := .int (X 5)) C hP igX4 rfl 5 (by decide) wd_1_125 0 rfl rfl dX4_load_23 ?_
    refine lv_aload_n hx hb dX4_load_26 rfl (lv_at hl 0 rfl) ?_
    refine kget (v := .int (X 7)) C hP igX4 rfl 7 (by decide) wd_1_127 0 rfl rfl dX4_load_27 ?_
    refine go_v (ws' := [xc ax ar al at_ ah X, rc ar av, ac cI av 11 R, lc al ag ai (q_X2_start_L (X 7)), gc ag (q_X2_start_G R (X 4) (X 5)), gc ai (q_X2_start_I R (X 4) (X 5)), hc ah a1 a2 a3, ac cI a1 2001 o1, ac cI a2 2001 o2, ac cI a3 2001 o3]) C (rn_V (As := [.ref ar, .int (X 4), .int (X 5), .int (X 7)]) (rest := []) C (c_X2_start l D cI al ag ai L G I ar av R (X 4) (X 5) (X 7) H.size) ck_X2_start wd_1_224 wd_1_225 wd_1_223 ⟨Nat.le_of_ble_eq_true rfl, Nat.le_of_ble_eq_true rfl⟩ ⟨Nat.le_refl _, Nat.le_refl _⟩ (ci := 2) (q0 := 3) rfl rfl hP hD hS [3, 4, 5, 1, 2] rfl rfl hl rfl (Nat.le_of_ble_eq_true rfl) dX4_load_30) hP hD hS [3, 4, 5, 1, 2] rfl rfl rfl (fun H locs hP hD hS => ?_)
    refine lv_aload_n hx hb dX4_load_33 rfl (lv_at hl 0 rfl) ?_
    refine kget (v := .ref ah) C hP igX4 rfl 3 (by decide) wd_1_123 0 rfl rfl dX4_load_34 ?_
    refine lv_aload_n hx hb dX4_load_37 rfl (lv_at hl 0 rfl) ?_
    refine kget (v := .ref al) C hP igX4 rfl 1 (by decide) wd_1_121 0 rfl rfl dX4_load_38 ?_
    refine lv_aload_n hx hb dX4_load_41 rfl (lv_at hl 0 rfl) ?_
    refine kget (v := .ref ar) C hP igX4 rfl 0 (by decide) wd_1_120 0 rfl rfl dX4_load_42 ?_
    refine go_v (ws' := [xc ax ar al at_ ah X, rc ar av, ac cI av 11 R, lc al ag ai (q_X2_start_L (X 7)), gc ag (q_X2_start_G R (X 4) (X 5)), gc ai (q_X2_start_I R (X 4) (X 5)), hc ah a1 a2 a3, ac cI a1 2001 (q_X1_note_o1 o1 (q_X2_start_L (X 7))), ac cI a2 2001 (q_X1_note_o2 o2 (q_X2_start_L (X 7)) R), ac cI a3 2001 (q_X1_note_o3 o3 (q_X2_start_L (X 7)) (q_X2_start_G R (X 4) (X 5)) (q_X2_start_I R (X 4) (X 5)))]) C (rn_V (As := [.ref al, .ref ar]) (rest := []) C (c_X1_note l D cI ah a1 a2 a3 o1 o2 o3 al ag ai (q_X2_start_L (X 7)) (q_X2_start_G R (X 4) (X 5)) (q_X2_start_I R (X 4) (X 5)) ar av R H.size) ck_X1_note wd_1_234 wd_1_235 wd_1_233 ⟨Nat.le_of_ble_eq_true rfl, Nat.le_of_ble_eq_true rfl⟩ ⟨Nat.le_refl _, Nat.le_refl _⟩ (ci := 1) (q0 := 6) rfl rfl hP hD hS [6, 7, 8, 9, 3, 4, 5, 1, 2] rfl rfl hl rfl (Nat.le_of_ble_eq_true rfl) dX4_load_45) hP hD hS [6, 7, 8, 9, 3, 4, 5, 1, 2] rfl rfl rfl (fun H locs hP hD hS => ?_)
    refine lv_aload_n hx hb dX4_load_48 rfl (lv_at hl 0 rfl) ?_
    refine lv_iconst (v := 1) hx hb dX4_load_49 (by decide) ?_
    refine kput (ty := .boolean) (ws' := [xc ax ar al at_ ah (x10 (X 4) (X 5) (X 6) (X 7) 1 (X 9)), rc ar av, ac cI av 11 R, lc al ag ai (q_X2_start_L (X 7)), gc ag (q_X2_start_G R (X 4) (X 5)), gc ai (q_X2_start_I R (X 4) (X 5)), hc ah a1 a2 a3, ac cI a1 2001 (q_X1_note_o1 o1 (q_X2_start_L (X 7))), ac cI a2 2001 (q_X1_note_o2 o2 (q_X2_start_L (X 7)) R), ac cI a3 2001 (q_X1_note_o3 o3 (q_X2_start_L (X 7)) (q_X2_start_G R (X 4) (X 5)) (q_X2_start_I R (X 4) (X 5)))]) C hP hD hS igX4 tyX4_ok nmX4 rfl 8 (by decide) wd_1_128 rfl rfl rfl rfl 0 rfl (Nat.le_of_ble_eq_true rfl) rfl dX4_load_50 (fun H locs hP hD hS => ?_)
    refine lv_aload_n hx hb dX4_load_53 rfl (lv_at hl 0 rfl) ?_
    refine go_i (ws' := [xc ax ar al at_ ah (x10 (X 4) (X 5) (X 6) (X 7) 1 (X 9)), rc ar av, ac cI av 11 R, lc al ag ai (q_X2_start_L (X 7)), gc ag (q_X2_start_G R (X 4) (X 5)), gc ai (q_X2_start_I R (X 4) (X 5)), hc ah a1 a2 a3, ac cI a1 2001 (q_X1_note_o1 o1 (q_X2_start_L (X 7))), ac cI a2 2001 (q_X1_note_o2 o2 (q_X2_start_L (X 7)) R), ac cI a3 2001 (q_X1_note_o3 o3 (q_X2_start_L (X 7)) (q_X2_start_G R (X 4) (X 5)) (q_X2_start_I R (X 4) (X 5)))]) C (rn_V (As := []) (rest := []) C (c_X4_places l D cI ax ar al at_ ah (x10 (X 4) (X 5) (X 6) (X 7) 1 (X 9)) H.size) ck_X4_places wd_1_160 wd_0_0 wd_1_158 ⟨Nat.le_of_ble_eq_true rfl, Nat.le_of_ble_eq_true rfl⟩ ⟨Nat.le_refl _, Nat.le_refl _⟩ (ci := 4) (q0 := 0) rfl rfl hP hD hS [0] rfl rfl hl rfl (Nat.le_of_ble_eq_true rfl) dX4_load_54) hP hD hS [0] rfl rfl rfl (fun H locs hP hD hS => ?_)
    exact hend _ _ _ _ _ (by rw [← hr, r_X4_load, if_pos c1]) (by rw [← ho_X, q_X4_load_X, if_pos c1, ← ho_L, q_X4_load_L, if_pos c1, ← ho_G, q_X4_load_G, if_pos c1, ← ho_I, q_X4_load_I, if_pos c1, ← ho_o1, q_X4_load_o1, if_pos c1, ← ho_o2, q_X4_load_o2, if_pos c1, ← ho_o3, q_X4_load_o3, if_pos c1]; exact hP) hS dX4_load_57
  · refine lv_bipush (v := (-3)) hx hb dX4_load_7 (by decide) ?_
    exact hend _ _ _ _ _ (by rw [← hr, r_X4_load, if_neg c1]) (by rw [← ho_X, q_X4_load_X, if_neg c1, ← ho_L, q_X4_load_L, if_neg c1, ← ho_G, q_X4_load_G, if_neg c1, ← ho_I, q_X4_load_I, if_neg c1, ← ho_o1, q_X4_load_o1, if_neg c1, ← ho_o2, q_X4_load_o2, if_neg c1, ← ho_o3, q_X4_load_o3, if_neg c1]; exact hP) hS dX4_load_9
def r_X4_warm (X : Nat → Int32) (t : Int32) : Int32 := (if (r_X4_within t (-600) 400) = 0 then (-10002) else (X 6))
def q_X4_warm_X (X : Nat → Int32) (t : Int32) : Nat → Int32 := (if (r_X4_within t (-600) 400) = 0 then X else (x10 (X 4) (X 5) t (X 7) (X 8) (X 9)))
theorem ck_X4_warm : CK yX4_warm cX4_warm 3 (some .int) 1 := ⟨wd_2_13, wd_1_1, by decide, by decide, by decide +kernel⟩
set_option maxHeartbeats 4000000 in
set_option maxRecDepth 100000 in
theorem c_X4_warm (l : Launch) (D : va_G) (cI : ClassId) (ax : Nat) (ar : Nat) (al : Nat) (at_ : Nat) (ah : Nat) (X : Nat → Int32) (t : Int32) : MI l D cI yX4_warm cX4_warm 3 (some .int) 1 22 [.ref ax, .int t] [xc ax ar al at_ ah X] (r_X4_warm X t) [xc ax ar al at_ ah (q_X4_warm_X X t)] := by
  generalize hr : (r_X4_warm X t) = r
  generalize ho_X : (q_X4_warm_X X t) = o_X
  refine MI.mk (own := RX4) rfl (by decide) rfl (Nat.le_of_ble_eq_true rfl) ?_
  intro p e s m args below meth c A Q C hD hend H locs ls hP hS hl
  have hx := C.1.1
  have hb := C.1.2.1
  have hl : lv_has ls 3 [(0, .ref ax), (1, .int t)] := hl
  refine lv_iload_n hx hb dX4_warm_0 rfl (lv_at hl 1 rfl) ?_
  refine lv_sipush (v := (-600)) hx hb dX4_warm_1 (by decide) ?_
  refine lv_sipush (v := 400) hx hb dX4_warm_4 (by decide) ?_
  refine go_i (ws' := [xc ax ar al at_ ah X]) C (rn_S (As := [.int t, .int (-600), .int 400]) (rest := []) C (c_X4_within l D cI t (-600) 400 H.size) ck_X4_within wd_1_156 wd_1_155 ⟨Nat.le_of_ble_eq_true rfl, Nat.le_of_ble_eq_true rfl⟩ ⟨Nat.le_refl _, Nat.le_refl _⟩ hP hD hS [] rfl rfl hl rfl (Nat.le_of_ble_eq_true rfl) dX4_warm_7) hP hD hS [] rfl rfl rfl (fun H locs hP hD hS => ?_)
  refine lv_if_ne (tgt := 17) hx hb dX4_warm_10 (by decide) (fun c1 => ?_) (fun c1 => ?_)
  · refine lv_aload_n hx hb dX4_warm_17 rfl (lv_at hl 0 rfl) ?_
    refine kget (v := .int (X 6)) C hP igX4 rfl 6 (by decide) wd_1_126 0 rfl rfl dX4_warm_18 ?_
    refine lv_istore_n (lv' := [(2, .int (X 6)), (0, .ref ax), (1, .int t)]) hx hb dX4_warm_21 rfl hl (by decide) rfl (fun ls hl => ?_)
    refine lv_aload_n hx hb dX4_warm_22 rfl (lv_at hl 1 rfl) ?_
    refine lv_iload_n hx hb dX4_warm_23 rfl (lv_at hl 2 rfl) ?_
    refine kput (ty := .int) (ws' := [xc ax ar al at_ ah (x10 (X 4) (X 5) t (X 7) (X 8) (X 9))]) C hP hD hS igX4 tyX4_ok nmX4 rfl 6 (by decide) wd_1_126 rfl rfl rfl rfl 0 rfl (Nat.le_of_ble_eq_true rfl) rfl dX4_warm_24 (fun H locs hP hD hS => ?_)
    refine lv_iload_n hx hb dX4_warm_27 rfl (lv_at hl 0 rfl) ?_
    exact hend _ _ _ _ _ (by rw [← hr, r_X4_warm, if_neg c1]) (by rw [← ho_X, q_X4_warm_X, if_neg c1]; exact hP) hS dX4_warm_28
  · refine lv_sipush (v := (-10002)) hx hb dX4_warm_13 (by decide) ?_
    exact hend _ _ _ _ _ (by rw [← hr, r_X4_warm, if_pos c1]) (by rw [← ho_X, q_X4_warm_X, if_pos c1]; exact hP) hS dX4_warm_16
def r_X4_set (X : Nat → Int32) (p0 : Int32) : Int32 := (if (r_X4_within p0 0 5000) = 0 then (-2) else (X 7))
def q_X4_set_X (X : Nat → Int32) (p0 : Int32) : Nat → Int32 := (if (r_X4_within p0 0 5000) = 0 then X else (x10 (X 4) (X 5) (X 6) p0 (X 8) (X 9)))
theorem ck_X4_set : CK yX4_set cX4_set 3 (some .int) 1 := ⟨wd_2_17, wd_1_1, by decide, by decide, by decide +kernel⟩
set_option maxHeartbeats 4000000 in
set_option maxRecDepth 100000 in
theorem c_X4_set (l : Launch) (D : va_G) (cI : ClassId) (ax : Nat) (ar : Nat) (al : Nat) (at_ : Nat) (ah : Nat) (X : Nat → Int32) (p0 : Int32) : MI l D cI yX4_set cX4_set 3 (some .int) 1 22 [.ref ax, .int p0] [xc ax ar al at_ ah X] (r_X4_set X p0) [xc ax ar al at_ ah (q_X4_set_X X p0)] := by
  generalize hr : (r_X4_set X p0) = r
  generalize ho_X : (q_X4_set_X X p0) = o_X
  refine MI.mk (own := RX4) rfl (by decide) rfl (Nat.le_of_ble_eq_true rfl) ?_
  intro p e s m args below meth c A Q C hD hend H locs ls hP hS hl
  have hx := C.1.1
  have hb := C.1.2.1
  have hl : lv_has ls 3 [(0, .ref ax), (1, .int p0)] := hl
  refine lv_iload_n hx hb dX4_set_0 rfl (lv_at hl 1 rfl) ?_
  refine lv_iconst (v := 0) hx hb dX4_set_1 (by decide) ?_
  refine lv_sipush (v := 5000) hx hb dX4_set_2 (by decide) ?_
  refine go_i (ws' := [xc ax ar al at_ ah X]) C (rn_S (As := [.int p0, .int 0, .int 5000]) (rest := []) C (c_X4_within l D cI p0 0 5000 H.size) ck_X4_within wd_1_156 wd_1_155 ⟨Nat.le_of_ble_eq_true rfl, Nat.le_of_ble_eq_true rfl⟩ ⟨Nat.le_refl _, Nat.le_refl _⟩ hP hD hS [] rfl rfl hl rfl (Nat.le_of_ble_eq_true rfl) dX4_set_5) hP hD hS [] rfl rfl rfl (fun H locs hP hD hS => ?_)
  refine lv_if_ne (tgt := 14) hx hb dX4_set_8 (by decide) (fun c1 => ?_) (fun c1 => ?_)
  · refine lv_aload_n hx hb dX4_set_14 rfl (lv_at hl 0 rfl) ?_
    refine kget (v := .int (X 7)) C hP igX4 rfl 7 (by decide) wd_1_127 0 rfl rfl dX4_set_15 ?_
    refine lv_istore_n (lv' := [(2, .int (X 7)), (0, .ref ax), (1, .int p0)]) hx hb dX4_set_18 rfl hl (by decide) rfl (fun ls hl => ?_)
    refine lv_aload_n hx hb dX4_set_19 rfl (lv_at hl 1 rfl) ?_
    refine lv_iload_n hx hb dX4_set_20 rfl (lv_at hl 2 rfl) ?_
    refine kput (ty := .int) (ws' := [xc ax ar al at_ ah (x10 (X 4) (X 5) (X 6) p0 (X 8) (X 9))]) C hP hD hS igX4 tyX4_ok nmX4 rfl 7 (by decide) wd_1_127 rfl rfl rfl rfl 0 rfl (Nat.le_of_ble_eq_true rfl) rfl dX4_set_21 (fun H locs hP hD hS => ?_)
    refine lv_iload_n hx hb dX4_set_24 rfl (lv_at hl 0 rfl) ?_
    exact hend _ _ _ _ _ (by rw [← hr, r_X4_set, if_neg c1]) (by rw [← ho_X, q_X4_set_X, if_neg c1]; exact hP) hS dX4_set_25
  · refine lv_bipush (v := (-2)) hx hb dX4_set_11 (by decide) ?_
    exact hend _ _ _ _ _ (by rw [← hr, r_X4_set, if_pos c1]) (by rw [← ho_X, q_X4_set_X, if_pos c1]; exact hP) hS dX4_set_13
noncomputable def lr_X4_run_41 (X : Nat → Int32) (R : Nat → Int32) (nn : Int32) : Nat → (Int32) → (Nat → Int32) → (Nat → Int32) → (Nat → Int32) → (Nat → Int32) → (Nat → Int32) → (Nat → Int32) → (Int32)
  | 0, _, _, _, _, _, _, _ => 0
  | n + 1, i, L, G, I, o1, o2, o3 => (if nn ≤ i then (L 2) else (lr_X4_run_41 X R nn n (i + 1) (q_X2_passMinute_L L G I R (X 6) (X 7)) (q_X2_passMinute_G L G R (X 6)) (q_X2_passMinute_I L I R (X 6)) (q_X1_note_o1 o1 (q_X2_passMinute_L L G I R (X 6) (X 7))) (q_X1_note_o2 o2 (q_X2_passMinute_L L G I R (X 6) (X 7)) R) (q_X1_note_o3 o3 (q_X2_passMinute_L L G I R (X 6) (X 7)) (q_X2_passMinute_G L G R (X 6)) (q_X2_passMinute_I L I R (X 6)))))
noncomputable def lq_X4_run_41_L (X : Nat → Int32) (R : Nat → Int32) (nn : Int32) : Nat → (Int32) → (Nat → Int32) → (Nat → Int32) → (Nat → Int32) → (Nat → Int32) → (Nat → Int32) → (Nat → Int32) → (Nat → Int32)
  | 0, _, _, _, _, _, _, _ => fun _ => 0
  | n + 1, i, L, G, I, o1, o2, o3 => (if nn ≤ i then L else (lq_X4_run_41_L X R nn n (i + 1) (q_X2_passMinute_L L G I R (X 6) (X 7)) (q_X2_passMinute_G L G R (X 6)) (q_X2_passMinute_I L I R (X 6)) (q_X1_note_o1 o1 (q_X2_passMinute_L L G I R (X 6) (X 7))) (q_X1_note_o2 o2 (q_X2_passMinute_L L G I R (X 6) (X 7)) R) (q_X1_note_o3 o3 (q_X2_passMinute_L L G I R (X 6) (X 7)) (q_X2_passMinute_G L G R (X 6)) (q_X2_passMinute_I L I R (X 6)))))
noncomputable def lq_X4_run_41_G (X : Nat → Int32) (R : Nat → Int32) (nn : Int32) : Nat → (Int32) → (Nat → Int32) → (Nat → Int32) → (Nat → Int32) → (Nat → Int32) → (Nat → Int32) → (Nat → Int32) → (Nat → Int32)
  | 0, _, _, _, _, _, _, _ => fun _ => 0
  | n + 1, i, L, G, I, o1, o2, o3 => (if nn ≤ i then G else (lq_X4_run_41_G X R nn n (i + 1) (q_X2_passMinute_L L G I R (X 6) (X 7)) (q_X2_passMinute_G L G R (X 6)) (q_X2_passMinute_I L I R (X 6)) (q_X1_note_o1 o1 (q_X2_passMinute_L L G I R (X 6) (X 7))) (q_X1_note_o2 o2 (q_X2_passMinute_L L G I R (X 6) (X 7)) R) (q_X1_note_o3 o3 (q_X2_passMinute_L L G I R (X 6) (X 7)) (q_X2_passMinute_G L G R (X 6)) (q_X2_passMinute_I L I R (X 6)))))
noncomputable def lq_X4_run_41_I (X : Nat → Int32) (R : Nat → Int32) (nn : Int32) : Nat → (Int32) → (Nat → Int32) → (Nat → Int32) → (Nat → Int32) → (Nat → Int32) → (Nat → Int32) → (Nat → Int32) → (Nat → Int32)
  | 0, _, _, _, _, _, _, _ => fun _ => 0
  | n + 1, i, L, G, I, o1, o2, o3 => (if nn ≤ i then I else (lq_X4_run_41_I X R nn n (i + 1) (q_X2_passMinute_L L G I R (X 6) (X 7)) (q_X2_passMinute_G L G R (X 6)) (q_X2_passMinute_I L I R (X 6)) (q_X1_note_o1 o1 (q_X2_passMinute_L L G I R (X 6) (X 7))) (q_X1_note_o2 o2 (q_X2_passMinute_L L G I R (X 6) (X 7)) R) (q_X1_note_o3 o3 (q_X2_passMinute_L L G I R (X 6) (X 7)) (q_X2_passMinute_G L G R (X 6)) (q_X2_passMinute_I L I R (X 6)))))
noncomputable def lq_X4_run_41_o1 (X : Nat → Int32) (R : Nat → Int32) (nn : Int32) : Nat → (Int32) → (Nat → Int32) → (Nat → Int32) → (Nat → Int32) → (Nat → Int32) → (Nat → Int32) → (Nat → Int32) → (Nat → Int32)
  | 0, _, _, _, _, _, _, _ => fun _ => 0
  | n + 1, i, L, G, I, o1, o2, o3 => (if nn ≤ i then o1 else (lq_X4_run_41_o1 X R nn n (i + 1) (q_X2_passMinute_L L G I R (X 6) (X 7)) (q_X2_passMinute_G L G R (X 6)) (q_X2_passMinute_I L I R (X 6)) (q_X1_note_o1 o1 (q_X2_passMinute_L L G I R (X 6) (X 7))) (q_X1_note_o2 o2 (q_X2_passMinute_L L G I R (X 6) (X 7)) R) (q_X1_note_o3 o3 (q_X2_passMinute_L L G I R (X 6) (X 7)) (q_X2_passMinute_G L G R (X 6)) (q_X2_passMinute_I L I R (X 6)))))
noncomputable def lq_X4_run_41_o2 (X : Nat → Int32) (R : Nat → Int32) (nn : Int32) : Nat → (Int32) → (Nat → Int32) → (Nat → Int32) → (Nat → Int32) → (Nat → Int32) → (Nat → Int32) → (Nat → Int32) → (Nat → Int32)
  | 0, _, _, _, _, _, _, _ => fun _ => 0
  | n + 1, i, L, G, I, o1, o2, o3 => (if nn ≤ i then o2 else (lq_X4_run_41_o2 X R nn n (i + 1) (q_X2_passMinute_L L G I R (X 6) (X 7)) (q_X2_passMinute_G L G R (X 6)) (q_X2_passMinute_I L I R (X 6)) (q_X1_note_o1 o1 (q_X2_passMinute_L L G I R (X 6) (X 7))) (q_X1_note_o2 o2 (q_X2_passMinute_L L G I R (X 6) (X 7)) R) (q_X1_note_o3 o3 (q_X2_passMinute_L L G I R (X 6) (X 7)) (q_X2_passMinute_G L G R (X 6)) (q_X2_passMinute_I L I R (X 6)))))
noncomputable def lq_X4_run_41_o3 (X : Nat → Int32) (R : Nat → Int32) (nn : Int32) : Nat → (Int32) → (Nat → Int32) → (Nat → Int32) → (Nat → Int32) → (Nat → Int32) → (Nat → Int32) → (Nat → Int32) → (Nat → Int32)
  | 0, _, _, _, _, _, _, _ => fun _ => 0
  | n + 1, i, L, G, I, o1, o2, o3 => (if nn ≤ i then o3 else (lq_X4_run_41_o3 X R nn n (i + 1) (q_X2_passMinute_L L G I R (X 6) (X 7)) (q_X2_passMinute_G L G R (X 6)) (q_X2_passMinute_I L I R (X 6)) (q_X1_note_o1 o1 (q_X2_passMinute_L L G I R (X 6) (X 7))) (q_X1_note_o2 o2 (q_X2_passMinute_L L G I R (X 6) (X 7)) R) (q_X1_note_o3 o3 (q_X2_passMinute_L L G I R (X 6) (X 7)) (q_X2_passMinute_G L G R (X 6)) (q_X2_passMinute_I L I R (X 6)))))
noncomputable def r_X4_run (X : Nat → Int32) (R : Nat → Int32) (L : Nat → Int32) (G : Nat → Int32) (I : Nat → Int32) (o1 : Nat → Int32) (o2 : Nat → Int32) (o3 : Nat → Int32) (nn : Int32) : Int32 := (if (r_X4_within nn 1 500) = 0 then (-2) else (if (X 8) = 0 then (-3) else (if ((L 2) + nn) ≤ 2000 then (lr_X4_run_41 X R nn (fu ((Int32.toInt nn).toNat + 1)) 0 L G I o1 o2 o3) else (-3))))
noncomputable def q_X4_run_L (X : Nat → Int32) (R : Nat → Int32) (L : Nat → Int32) (G : Nat → Int32) (I : Nat → Int32) (o1 : Nat → Int32) (o2 : Nat → Int32) (o3 : Nat → Int32) (nn : Int32) : Nat → Int32 := (if (r_X4_within nn 1 500) = 0 then L else (if (X 8) = 0 then L else (if ((L 2) + nn) ≤ 2000 then (lq_X4_run_41_L X R nn (fu ((Int32.toInt nn).toNat + 1)) 0 L G I o1 o2 o3) else L)))
noncomputable def q_X4_run_G (X : Nat → Int32) (R : Nat → Int32) (L : Nat → Int32) (G : Nat → Int32) (I : Nat → Int32) (o1 : Nat → Int32) (o2 : Nat → Int32) (o3 : Nat → Int32) (nn : Int32) : Nat → Int32 := (if (r_X4_within nn 1 500) = 0 then G else (if (X 8) = 0 then G else (if ((L 2) + nn) ≤ 2000 then (lq_X4_run_41_G X R nn (fu ((Int32.toInt nn).toNat + 1)) 0 L G I o1 o2 o3) else G)))
noncomputable def q_X4_run_I (X : Nat → Int32) (R : Nat → Int32) (L : Nat → Int32) (G : Nat → Int32) (I : Nat → Int32) (o1 : Nat → Int32) (o2 : Nat → Int32) (o3 : Nat → Int32) (nn : Int32) : Nat → Int32 := (if (r_X4_within nn 1 500) = 0 then I else (if (X 8) = 0 then I else (if ((L 2) + nn) ≤ 2000 then (lq_X4_run_41_I X R nn (fu ((Int32.toInt nn).toNat + 1)) 0 L G I o1 o2 o3) else I)))
noncomputable def q_X4_run_o1 (X : Nat → Int32) (R : Nat → Int32) (L : Nat → Int32) (G : Nat → Int32) (I : Nat → Int32) (o1 : Nat → Int32) (o2 : Nat → Int32) (o3 : Nat → Int32) (nn : Int32) : Nat → Int32 := (if (r_X4_within nn 1 500) = 0 then o1 else (if (X 8) = 0 then o1 else (if ((L 2) + nn) ≤ 2000 then (lq_X4_run_41_o1 X R nn (fu ((Int32.toInt nn).toNat + 1)) 0 L G I o1 o2 o3) else o1)))
noncomputable def q_X4_run_o2 (X : Nat → Int32) (R : Nat → Int32) (L : Nat → Int32) (G : Nat → Int32) (I : Nat → Int32) (o1 : Nat → Int32) (o2 : Nat → Int32) (o3 : Nat → Int32) (nn : Int32) : Nat → Int32 := (if (r_X4_within nn 1 500) = 0 then o2 else (if (X 8) = 0 then o2 else (if ((L 2) + nn) ≤ 2000 then (lq_X4_run_41_o2 X R nn (fu ((Int32.toInt nn).toNat + 1)) 0 L G I o1 o2 o3) else o2)))
noncomputable def q_X4_run_o3 (X : Nat → Int32) (R : Nat → Int32) (L : Nat → Int32) (G : Nat → Int32) (I : Nat → Int32) (o1 : Nat → Int32) (o2 : Nat → Int32) (o3 : Nat → Int32) (nn : Int32) : Nat → Int32 := (if (r_X4_within nn 1 500) = 0 then o3 else (if (X 8) = 0 then o3 else (if ((L 2) + nn) ≤ 2000 then (lq_X4_run_41_o3 X R nn (fu ((Int32.toInt nn).toNat + 1)) 0 L G I o1 o2 o3) else o3)))
theorem ck_X4_run : CK yX4_run cX4_run 3 (some .int) 1 := ⟨wd_2_21, wd_1_1, by decide, by decide, by decide +kernel⟩
set_option maxHeartbeats 4000000 in
set_option maxRecDepth 100000 in
theorem c_X4_run (l : Launch) (D : va_G) (cI : ClassId) (ax : Nat) (ar : Nat) (al : Nat) (at_ : Nat) (ah : Nat) (X : Nat → Int32) (av : Nat) (R : Nat → Int32) (ag : Nat) (ai : Nat) (L : Nat → Int32) (G : Nat → Int32) (I : Nat → Int32) (a1 : Nat) (a2 : Nat) (a3 : Nat) (o1 : Nat → Int32) (o2 : Nat → Int32) (o3 : Nat → Int32) (nn : Int32) : MI l D cI yX4_run cX4_run 3 (some .int) 5 125 [.ref ax, .int nn] [xc ax ar al at_ ah X, rc ar av, ac cI av 11 R, lc al ag ai L, gc ag G, gc ai I, hc ah a1 a2 a3, ac cI a1 2001 o1, ac cI a2 2001 o2, ac cI a3 2001 o3] (r_X4_run X R L G I o1 o2 o3 nn) [xc ax ar al at_ ah X, rc ar av, ac cI av 11 R, lc al ag ai (q_X4_run_L X R L G I o1 o2 o3 nn), gc ag (q_X4_run_G X R L G I o1 o2 o3 nn), gc ai (q_X4_run_I X R L G I o1 o2 o3 nn), hc ah a1 a2 a3, ac cI a1 2001 (q_X4_run_o1 X R L G I o1 o2 o3 nn), ac cI a2 2001 (q_X4_run_o2 X R L G I o1 o2 o3 nn), ac cI a3 2001 (q_X4_run_o3 X R L G I o1 o2 o3 nn)] := by
  generalize hr : (r_X4_run X R L G I o1 o2 o3 nn) = r
  generalize ho_L : (q_X4_run_L X R L G I o1 o2 o3 nn) = o_L
  generalize ho_G : (q_X4_run_G X R L G I o1 o2 o3 nn) = o_G
  generalize ho_I : (q_X4_run_I X R L G I o1 o2 o3 nn) = o_I
  generalize ho_o1 : (q_X4_run_o1 X R L G I o1 o2 o3 nn) = o_o1
  generalize ho_o2 : (q_X4_run_o2 X R L G I o1 o2 o3 nn) = o_o2
  generalize ho_o3 : (q_X4_run_o3 X R L G I o1 o2 o3 nn) = o_o3
  refine MI.mk (own := RX4) rfl (by decide) rfl (Nat.le_of_ble_eq_true rfl) ?_
  intro p e s m args below meth c A Q C hD hend H locs ls hP hS hl
  have hx := C.1.1
  have hb := C.1.2.1
  have hl : lv_has ls 3 [(0, .ref ax), (1, .int nn)] := hl
  refine lv_iload_n hx hb dX4_run_0 rfl (lv_at hl 1 rfl) ?_
  refine lv_iconst (v := 1) hx hb dX4_run_1 (by decide) ?_
  refine lv_sipush (v := 500) hx hb dX4_run_2 (by decide) ?_
  refine go_i (ws' := [xc ax ar al at_ ah X, rc ar av, ac cI av 11 R, lc al ag ai L, gc ag G, gc ai I, hc ah a1 a2 a3, ac cI a1 2001 o1, ac cI a2 2001 o2, ac cI a3 2001 o3]) C (rn_S (As := [.int nn, .int 1, .int 500]) (rest := []) C (c_X4_within l D cI nn 1 500 H.size) ck_X4_within wd_1_156 wd_1_155 ⟨Nat.le_of_ble_eq_true rfl, Nat.le_of_ble_eq_true rfl⟩ ⟨Nat.le_refl _, Nat.le_refl _⟩ hP hD hS [] rfl rfl hl rfl (Nat.le_of_ble_eq_true rfl) dX4_run_5) hP hD hS [] rfl rfl rfl (fun H locs hP hD hS => ?_)
  refine lv_if_ne (tgt := 14) hx hb dX4_run_8 (by decide) (fun c1 => ?_) (fun c1 => ?_)
  · refine lv_aload_n hx hb dX4_run_14 rfl (lv_at hl 0 rfl) ?_
    refine kget (v := .int (X 8)) C hP igX4 rfl 8 (by decide) wd_1_128 0 rfl rfl dX4_run_15 ?_
    refine lv_if_eq (tgt := 36) hx hb dX4_run_18 (by decide) (fun c2 => ?_) (fun c2 => ?_)
    · refine lv_bipush (v := (-3)) hx hb dX4_run_36 (by decide) ?_
      exact hend _ _ _ _ _ (by rw [← hr, r_X4_run, if_neg c1, if_pos c2]) (by rw [← ho_L, q_X4_run_L, if_neg c1, if_pos c2, ← ho_G, q_X4_run_G, if_neg c1, if_pos c2, ← ho_I, q_X4_run_I, if_neg c1, if_pos c2, ← ho_o1, q_X4_run_o1, if_neg c1, if_pos c2, ← ho_o2, q_X4_run_o2, if_neg c1, if_pos c2, ← ho_o3, q_X4_run_o3, if_neg c1, if_pos c2]; exact hP) hS dX4_run_38
    · refine lv_aload_n hx hb dX4_run_21 rfl (lv_at hl 0 rfl) ?_
      refine kget (v := .ref al) C hP igX4 rfl 1 (by decide) wd_1_121 0 rfl rfl dX4_run_22 ?_
      refine kget (v := .int (L 2)) C hP igX2 rfl 2 (by decide) wd_1_82 3 rfl rfl dX4_run_25 ?_
      refine lv_iload_n hx hb dX4_run_28 rfl (lv_at hl 1 rfl) ?_
      refine lv_iadd hx hb dX4_run_29 ?_
      refine lv_sipush (v := 2000) hx hb dX4_run_30 (by decide) ?_
      refine lv_icmp_le (tgt := 39) hx hb dX4_run_33 (by decide) (fun c3 => ?_) (fun c3 => ?_)
      · refine lv_iconst (v := 0) hx hb dX4_run_39 (by decide) ?_
        refine lv_istore_n (lv' := [(2, .int 0), (0, .ref ax), (1, .int nn)]) hx hb dX4_run_40 rfl hl (by decide) rfl (fun ls hl => ?_)
        have lp41 : ∀ (n : Nat) (i : Int32) (L : Nat → Int32) (G : Nat → Int32) (I : Nat → Int32) (o1 : Nat → Int32) (o2 : Nat → Int32) (o3 : Nat → Int32), (Int32.toInt nn - Int32.toInt i).toNat < n → lr_X4_run_41 X R nn n i L G I o1 o2 o3 = r → lq_X4_run_41_L X R nn n i L G I o1 o2 o3 = o_L → lq_X4_run_41_G X R nn n i L G I o1 o2 o3 = o_G → lq_X4_run_41_I X R nn n i L G I o1 o2 o3 = o_I → lq_X4_run_41_o1 X R nn n i L G I o1 o2 o3 = o_o1 → lq_X4_run_41_o2 X R nn n i L G I o1 o2 o3 = o_o2 → lq_X4_run_41_o3 X R nn n i L G I o1 o2 o3 = o_o3 → ∀ (ls : Array Slot) (H : Heap) (locs : List Loc), lv_has ls 3 [(0, .ref ax), (1, .int nn), (2, .int i)] → va_P D vwCl [xc ax ar al at_ ah X, rc ar av, ac cI av 11 R, lc al ag ai L, gc ag G, gc ai I, hc ah a1 a2 a3, ac cI a1 2001 o1, ac cI a2 2001 o2, ac cI a3 2001 o3] H → va_D A [xc ax ar al at_ ah X, rc ar av, ac cI av 11 R, lc al ag ai L, gc ag G, gc ai I, hc ah a1 a2 a3, ac cI a1 2001 o1, ac cI a2 2001 o2, ac cI a3 2001 o3] → va_S A s.heap H locs → W p l e (RM 5 125) s m args below meth c H locs 0 0 Q (F0 m 41 ls []) := by
          clear hl hP hD hS
          intro n
          induction n with
          | zero =>
            intro i L G I o1 o2 o3  hm
            exact absurd hm (Nat.not_lt_zero _)
          | succ n ih =>
            intro i L G I o1 o2 o3  hm hr ho_L ho_G ho_I ho_o1 ho_o2 ho_o3 ls H locs hl hP hD hS
            refine lv_iload_n hx hb dX4_run_41 rfl (lv_at hl 2 rfl) ?_
            refine lv_iload_n hx hb dX4_run_42 rfl (lv_at hl 1 rfl) ?_
            refine lv_icmp_ge (tgt := 86) hx hb dX4_run_43 (by decide) (fun c4 => ?_) (fun c4 => ?_)
            · refine lv_aload_n hx hb dX4_run_86 rfl (lv_at hl 0 rfl) ?_
              refine kget (v := .ref al) C hP igX4 rfl 1 (by decide) wd_1_121 0 rfl rfl dX4_run_87 ?_
              refine kget (v := .int (L 2)) C hP igX2 rfl 2 (by decide) wd_1_82 3 rfl rfl dX4_run_90 ?_
              exact hend _ _ _ _ _ (by rw [← hr, lr_X4_run_41, if_pos c4]) (by rw [← ho_L, lq_X4_run_41_L, if_pos c4, ← ho_G, lq_X4_run_41_G, if_pos c4, ← ho_I, lq_X4_run_41_I, if_pos c4, ← ho_o1, lq_X4_run_41_o1, if_pos c4, ← ho_o2, lq_X4_run_41_o2, if_pos c4, ← ho_o3, lq_X4_run_41_o3, if_pos c4]; exact hP) hS dX4_run_93
            · refine lv_aload_n hx hb dX4_run_46 rfl (lv_at hl 0 rfl) ?_
              refine kget (v := .ref al) C hP igX4 rfl 1 (by decide) wd_1_121 0 rfl rfl dX4_run_47 ?_
              refine lv_aload_n hx hb dX4_run_50 rfl (lv_at hl 0 rfl) ?_
              refine kget (v := .ref ar) C hP igX4 rfl 0 (by decide) wd_1_120 0 rfl rfl dX4_run_51 ?_
              refine lv_aload_n hx hb dX4_run_54 rfl (lv_at hl 0 rfl) ?_
              refine kget (v := .int (X 6)) C hP igX4 rfl 6 (by decide) wd_1_126 0 rfl rfl dX4_run_55 ?_
              refine lv_aload_n hx hb dX4_run_58 rfl (lv_at hl 0 rfl) ?_
              refine kget (v := .int (X 7)) C hP igX4 rfl 7 (by decide) wd_1_127 0 rfl rfl dX4_run_59 ?_
              refine go_v (ws' := [xc ax ar al at_ ah X, rc ar av, ac cI av 11 R, lc al ag ai (q_X2_passMinute_L L G I R (X 6) (X 7)), gc ag (q_X2_passMinute_G L G R (X 6)), gc ai (q_X2_passMinute_I L I R (X 6)), hc ah a1 a2 a3, ac cI a1 2001 o1, ac cI a2 2001 o2, ac cI a3 2001 o3]) C (rn_V (As := [.ref ar, .int (X 6), .int (X 7)]) (rest := []) C (c_X2_passMinute l D cI al ag ai L G I ar av R (X 6) (X 7) H.size) ck_X2_passMinute wd_2_23 wd_2_24 wd_2_22 ⟨Nat.le_of_ble_eq_true rfl, Nat.le_of_ble_eq_true rfl⟩ ⟨Nat.le_refl _, Nat.le_refl _⟩ (ci := 2) (q0 := 3) rfl rfl hP hD hS [3, 4, 5, 1, 2] rfl rfl hl rfl (Nat.le_of_ble_eq_true rfl) dX4_run_62) hP hD hS [3, 4, 5, 1, 2] rfl rfl rfl (fun H locs hP hD hS => ?_)
              refine lv_aload_n hx hb dX4_run_65 rfl (lv_at hl 0 rfl) ?_
              refine kget (v := .ref ah) C hP igX4 rfl 3 (by decide) wd_1_123 0 rfl rfl dX4_run_66 ?_
              refine lv_aload_n hx hb dX4_run_69 rfl (lv_at hl 0 rfl) ?_
              refine kget (v := .ref al) C hP igX4 rfl 1 (by decide) wd_1_121 0 rfl rfl dX4_run_70 ?_
              refine lv_aload_n hx hb dX4_run_73 rfl (lv_at hl 0 rfl) ?_
              refine kget (v := .ref ar) C hP igX4 rfl 0 (by decide) wd_1_120 0 rfl rfl dX4_run_74 ?_
              refine go_v (ws' := [xc ax ar al at_ ah X, rc ar av, ac cI av 11 R, lc al ag ai (q_X2_passMinute_L L G I R (X 6) (X 7)), gc ag (q_X2_passMinute_G L G R (X 6)), gc ai (q_X2_passMinute_I L I R (X 6)), hc ah a1 a2 a3, ac cI a1 2001 (q_X1_note_o1 o1 (q_X2_passMinute_L L G I R (X 6) (X 7))), ac cI a2 2001 (q_X1_note_o2 o2 (q_X2_passMinute_L L G I R (X 6) (X 7)) R), ac cI a3 2001 (q_X1_note_o3 o3 (q_X2_passMinute_L L G I R (X 6) (X 7)) (q_X2_passMinute_G L G R (X 6)) (q_X2_passMinute_I L I R (X 6)))]) C (rn_V (As := [.ref al, .ref ar]) (rest := []) C (c_X1_note l D cI ah a1 a2 a3 o1 o2 o3 al ag ai (q_X2_passMinute_L L G I R (X 6) (X 7)) (q_X2_passMinute_G L G R (X 6)) (q_X2_passMinute_I L I R (X 6)) ar av R H.size) ck_X1_note wd_1_234 wd_1_235 wd_1_233 ⟨Nat.le_of_ble_eq_true rfl, Nat.le_of_ble_eq_true rfl⟩ ⟨Nat.le_refl _, Nat.le_refl _⟩ (ci := 1) (q0 := 6) rfl rfl hP hD hS [6, 7, 8, 9, 3, 4, 5, 1, 2] rfl rfl hl rfl (Nat.le_of_ble_eq_true rfl) dX4_run_77) hP hD hS [6, 7, 8, 9, 3, 4, 5, 1, 2] rfl rfl rfl (fun H locs hP hD hS => ?_)
              refine lv_iinc (v := (i + 1)) (lv' := [(2, .int (i + 1)), (0, .ref ax), (1, .int nn)]) hx hb dX4_run_80 hl (k := 2) rfl rfl (by decide) rfl (fun ls hl => ?_)
              refine lv_goto (tgt := 41) hx hb dX4_run_83 (by decide) ?_
              exact ih (i + 1) (q_X2_passMinute_L L G I R (X 6) (X 7)) (q_X2_passMinute_G L G R (X 6)) (q_X2_passMinute_I L I R (X 6)) (q_X1_note_o1 o1 (q_X2_passMinute_L L G I R (X 6) (X 7))) (q_X1_note_o2 o2 (q_X2_passMinute_L L G I R (X 6) (X 7)) R) (q_X1_note_o3 o3 (q_X2_passMinute_L L G I R (X 6) (X 7)) (q_X2_passMinute_G L G R (X 6)) (q_X2_passMinute_I L I R (X 6)))  (cnt2_lt c4 hm) (by rw [← hr, lr_X4_run_41, if_neg c4]) (by rw [← ho_L, lq_X4_run_41_L, if_neg c4]) (by rw [← ho_G, lq_X4_run_41_G, if_neg c4]) (by rw [← ho_I, lq_X4_run_41_I, if_neg c4]) (by rw [← ho_o1, lq_X4_run_41_o1, if_neg c4]) (by rw [← ho_o2, lq_X4_run_41_o2, if_neg c4]) (by rw [← ho_o3, lq_X4_run_41_o3, if_neg c4]) ls H locs (lv_sub hl [1, 2, 0] rfl) hP hD hS
        exact lp41 (fu ((Int32.toInt nn).toNat + 1)) 0 L G I o1 o2 o3  (by rw [fu_eq]; have e0 : (0 : Int32).toInt = 0 := rfl; omega) (by rw [← hr, r_X4_run, if_neg c1, if_neg c2, if_pos c3]) (by rw [← ho_L, q_X4_run_L, if_neg c1, if_neg c2, if_pos c3]) (by rw [← ho_G, q_X4_run_G, if_neg c1, if_neg c2, if_pos c3]) (by rw [← ho_I, q_X4_run_I, if_neg c1, if_neg c2, if_pos c3]) (by rw [← ho_o1, q_X4_run_o1, if_neg c1, if_neg c2, if_pos c3]) (by rw [← ho_o2, q_X4_run_o2, if_neg c1, if_neg c2, if_pos c3]) (by rw [← ho_o3, q_X4_run_o3, if_neg c1, if_neg c2, if_pos c3]) ls H locs (lv_sub hl [1, 2, 0] rfl) hP hD hS
      · refine lv_bipush (v := (-3)) hx hb dX4_run_36 (by decide) ?_
        exact hend _ _ _ _ _ (by rw [← hr, r_X4_run, if_neg c1, if_neg c2, if_neg c3]) (by rw [← ho_L, q_X4_run_L, if_neg c1, if_neg c2, if_neg c3, ← ho_G, q_X4_run_G, if_neg c1, if_neg c2, if_neg c3, ← ho_I, q_X4_run_I, if_neg c1, if_neg c2, if_neg c3, ← ho_o1, q_X4_run_o1, if_neg c1, if_neg c2, if_neg c3, ← ho_o2, q_X4_run_o2, if_neg c1, if_neg c2, if_neg c3, ← ho_o3, q_X4_run_o3, if_neg c1, if_neg c2, if_neg c3]; exact hP) hS dX4_run_38
  · refine lv_bipush (v := (-2)) hx hb dX4_run_11 (by decide) ?_
    exact hend _ _ _ _ _ (by rw [← hr, r_X4_run, if_pos c1]) (by rw [← ho_L, q_X4_run_L, if_pos c1, ← ho_G, q_X4_run_G, if_pos c1, ← ho_I, q_X4_run_I, if_pos c1, ← ho_o1, q_X4_run_o1, if_pos c1, ← ho_o2, q_X4_run_o2, if_pos c1, ← ho_o3, q_X4_run_o3, if_pos c1]; exact hP) hS dX4_run_13
def r_X4_unload (X : Nat → Int32) (G : Nat → Int32) (I : Nat → Int32) : Int32 := (if (X 8) = 0 then (-3) else (r_X2_vialsWithIce G I))
def q_X4_unload_X (X : Nat → Int32) : Nat → Int32 := (if (X 8) = 0 then X else (x10 (X 4) (X 5) (X 6) (X 7) 0 (X 9)))
theorem ck_X4_unload : CK yX4_unload cX4_unload 1 (some .int) 0 := ⟨wd_2_49, wd_1_1, by decide, by decide, by decide +kernel⟩
set_option maxHeartbeats 4000000 in
set_option maxRecDepth 100000 in
theorem c_X4_unload (l : Launch) (D : va_G) (cI : ClassId) (ax : Nat) (ar : Nat) (al : Nat) (at_ : Nat) (ah : Nat) (X : Nat → Int32) (ag : Nat) (ai : Nat) (L : Nat → Int32) (G : Nat → Int32) (I : Nat → Int32) : MI l D cI yX4_unload cX4_unload 1 (some .int) 1 20 [.ref ax] [xc ax ar al at_ ah X, lc al ag ai L, gc ag G, gc ai I] (r_X4_unload X G I) [xc ax ar al at_ ah (q_X4_unload_X X), lc al ag ai L, gc ag G, gc ai I] := by
  generalize hr : (r_X4_unload X G I) = r
  generalize ho_X : (q_X4_unload_X X) = o_X
  refine MI.mk (own := RX4) rfl (by decide) rfl (Nat.le_of_ble_eq_true rfl) ?_
  intro p e s m args below meth c A Q C hD hend H locs ls hP hS hl
  have hx := C.1.1
  have hb := C.1.2.1
  have hl : lv_has ls 1 [(0, .ref ax)] := hl
  refine lv_aload_n hx hb dX4_unload_0 rfl (lv_at hl 0 rfl) ?_
  refine kget (v := .int (X 8)) C hP igX4 rfl 8 (by decide) wd_1_128 0 rfl rfl dX4_unload_1 ?_
  refine lv_if_ne (tgt := 10) hx hb dX4_unload_4 (by decide) (fun c1 => ?_) (fun c1 => ?_)
  · refine lv_aload_n hx hb dX4_unload_10 rfl (lv_at hl 0 rfl) ?_
    refine lv_iconst (v := 0) hx hb dX4_unload_11 (by decide) ?_
    refine kput (ty := .boolean) (ws' := [xc ax ar al at_ ah (x10 (X 4) (X 5) (X 6) (X 7) 0 (X 9)), lc al ag ai L, gc ag G, gc ai I]) C hP hD hS igX4 tyX4_ok nmX4 rfl 8 (by decide) wd_1_128 rfl rfl rfl rfl 0 rfl (Nat.le_of_ble_eq_true rfl) rfl dX4_unload_12 (fun H locs hP hD hS => ?_)
    refine lv_aload_n hx hb dX4_unload_15 rfl (lv_at hl 0 rfl) ?_
    refine kget (v := .ref al) C hP igX4 rfl 1 (by decide) wd_1_121 0 rfl rfl dX4_unload_16 ?_
    refine go_i (ws' := [xc ax ar al at_ ah (x10 (X 4) (X 5) (X 6) (X 7) 0 (X 9)), lc al ag ai L, gc ag G, gc ai I]) C (rn_V (As := []) (rest := []) C (c_X2_vialsWithIce l D cI al ag ai L G I H.size) ck_X2_vialsWithIce wd_2_7 wd_2_8 wd_2_50 ⟨Nat.le_of_ble_eq_true rfl, Nat.le_of_ble_eq_true rfl⟩ ⟨Nat.le_refl _, Nat.le_refl _⟩ (ci := 2) (q0 := 1) rfl rfl hP hD hS [1, 2, 3] rfl rfl hl rfl (Nat.le_of_ble_eq_true rfl) dX4_unload_19) hP hD hS [1, 2, 3] rfl rfl rfl (fun H locs hP hD hS => ?_)
    exact hend _ _ _ _ _ (by rw [← hr, r_X4_unload, if_neg c1]) (by rw [← ho_X, q_X4_unload_X, if_neg c1]; exact hP) hS dX4_unload_22
  · refine lv_bipush (v := (-3)) hx hb dX4_unload_7 (by decide) ?_
    exact hend _ _ _ _ _ (by rw [← hr, r_X4_unload, if_pos c1]) (by rw [← ho_X, q_X4_unload_X, if_pos c1]; exact hP) hS dX4_unload_9
def r_X4_vial (X : Nat → Int32) (G : Nat → Int32) (I : Nat → Int32) (k : Int32) (wh : Int32) : Int32 := (if (X 8) = 0 then (-10003) else (if (r_X4_within k 0 ((r_X4_places X) - 1)) = 0 then (-10001) else (if (r_X4_within wh 0 4) = 0 then (-10002) else (if (r_X4_isAtRim X k) = 0 then (r_X0_tell I wh) else (r_X0_tell G wh)))))
theorem ck_X4_vial : CK yX4_vial cX4_vial 4 (some .int) 2 := ⟨wd_2_54, wd_1_1, by decide, by decide, by decide +kernel⟩
set_option maxHeartbeats 4000000 in
set_option maxRecDepth 100000 in
theorem c_X4_vial (l : Launch) (D : va_G) (cI : ClassId) (ax : Nat) (ar : Nat) (al : Nat) (at_ : Nat) (ah : Nat) (X : Nat → Int32) (ag : Nat) (ai : Nat) (L : Nat → Int32) (G : Nat → Int32) (I : Nat → Int32) (k : Int32) (wh : Int32) : MI l D cI yX4_vial cX4_vial 4 (some .int) 2 44 [.ref ax, .int k, .int wh] [xc ax ar al at_ ah X, lc al ag ai L, gc ag G, gc ai I] (r_X4_vial X G I k wh) [xc ax ar al at_ ah X, lc al ag ai L, gc ag G, gc ai I] := by
  generalize hr : (r_X4_vial X G I k wh) = r
  refine MI.mk (own := RX4) rfl (by decide) rfl (Nat.le_of_ble_eq_true rfl) ?_
  intro p e s m args below meth c A Q C hD hend H locs ls hP hS hl
  have hx := C.1.1
  have hb := C.1.2.1
  have hl : lv_has ls 4 [(0, .ref ax), (1, .int k), (2, .int wh)] := hl
  refine lv_aload_n hx hb dX4_vial_0 rfl (lv_at hl 0 rfl) ?_
  refine kget (v := .int (X 8)) C hP igX4 rfl 8 (by decide) wd_1_128 0 rfl rfl dX4_vial_1 ?_
  refine lv_if_ne (tgt := 11) hx hb dX4_vial_4 (by decide) (fun c1 => ?_) (fun c1 => ?_)
  · refine lv_iload_n hx hb dX4_vial_11 rfl (lv_at hl 1 rfl) ?_
    refine lv_iconst (v := 0) hx hb dX4_vial_12 (by decide) ?_
    refine lv_aload_n hx hb dX4_vial_13 rfl (lv_at hl 0 rfl) ?_
    refine go_i (ws' := [xc ax ar al at_ ah X, lc al ag ai L, gc ag G, gc ai I]) C (rn_V (As := []) (rest := [.int 0, .int k]) C (c_X4_places l D cI ax ar al at_ ah X H.size) ck_X4_places wd_1_160 wd_0_0 wd_1_158 ⟨Nat.le_of_ble_eq_true rfl, Nat.le_of_ble_eq_true rfl⟩ ⟨Nat.le_refl _, Nat.le_refl _⟩ (ci := 4) (q0 := 0) rfl rfl hP hD hS [0] rfl rfl hl rfl (Nat.le_of_ble_eq_true rfl) dX4_vial_14) hP hD hS [0] rfl rfl rfl (fun H locs hP hD hS => ?_)
    refine lv_iconst (v := 1) hx hb dX4_vial_17 (by decide) ?_
    refine lv_isub hx hb dX4_vial_18 ?_
    refine go_i (ws' := [xc ax ar al at_ ah X, lc al ag ai L, gc ag G, gc ai I]) C (rn_S (As := [.int k, .int 0, .int ((r_X4_places X) - 1)]) (rest := []) C (c_X4_within l D cI k 0 ((r_X4_places X) - 1) H.size) ck_X4_within wd_1_156 wd_1_155 ⟨Nat.le_of_ble_eq_true rfl, Nat.le_of_ble_eq_true rfl⟩ ⟨Nat.le_refl _, Nat.le_refl _⟩ hP hD hS [] rfl rfl hl rfl (Nat.le_of_ble_eq_true rfl) dX4_vial_19) hP hD hS [] rfl rfl rfl (fun H locs hP hD hS => ?_)
    refine lv_if_ne (tgt := 29) hx hb dX4_vial_22 (by decide) (fun c2 => ?_) (fun c2 => ?_)
    · refine lv_iload_n hx hb dX4_vial_29 rfl (lv_at hl 2 rfl) ?_
      refine lv_iconst (v := 0) hx hb dX4_vial_30 (by decide) ?_
      refine lv_iconst (v := 4) hx hb dX4_vial_31 (by decide) ?_
      refine go_i (ws' := [xc ax ar al at_ ah X, lc al ag ai L, gc ag G, gc ai I]) C (rn_S (As := [.int wh, .int 0, .int 4]) (rest := []) C (c_X4_within l D cI wh 0 4 H.size) ck_X4_within wd_1_156 wd_1_155 ⟨Nat.le_of_ble_eq_true rfl, Nat.le_of_ble_eq_true rfl⟩ ⟨Nat.le_refl _, Nat.le_refl _⟩ hP hD hS [] rfl rfl hl rfl (Nat.le_of_ble_eq_true rfl) dX4_vial_32) hP hD hS [] rfl rfl rfl (fun H locs hP hD hS => ?_)
      refine lv_if_ne (tgt := 42) hx hb dX4_vial_35 (by decide) (fun c3 => ?_) (fun c3 => ?_)
      · refine lv_aload_n hx hb dX4_vial_42 rfl (lv_at hl 0 rfl) ?_
        refine lv_iload_n hx hb dX4_vial_43 rfl (lv_at hl 1 rfl) ?_
        refine go_i (ws' := [xc ax ar al at_ ah X, lc al ag ai L, gc ag G, gc ai I]) C (rn_V (As := [.int k]) (rest := []) C (c_X4_isAtRim l D cI ax ar al at_ ah X k H.size) ck_X4_isAtRim wd_1_217 wd_0_1 wd_1_215 ⟨Nat.le_of_ble_eq_true rfl, Nat.le_of_ble_eq_true rfl⟩ ⟨Nat.le_refl _, Nat.le_refl _⟩ (ci := 4) (q0 := 0) rfl rfl hP hD hS [0] rfl rfl hl rfl (Nat.le_of_ble_eq_true rfl) dX4_vial_44) hP hD hS [0] rfl rfl rfl (fun H locs hP hD hS => ?_)
        refine lv_if_eq (tgt := 60) hx hb dX4_vial_47 (by decide) (fun c4 => ?_) (fun c4 => ?_)
        · refine lv_aload_n hx hb dX4_vial_60 rfl (lv_at hl 0 rfl) ?_
          refine kget (v := .ref al) C hP igX4 rfl 1 (by decide) wd_1_121 0 rfl rfl dX4_vial_61 ?_
          refine kget (v := .ref ai) C hP igX2 rfl 1 (by decide) wd_1_79 1 rfl rfl dX4_vial_64 ?_
          refine lv_astore_n (lv' := [(3, .ref ai), (0, .ref ax), (1, .int k), (2, .int wh)]) hx hb dX4_vial_67 rfl hl (by decide) rfl (fun ls hl => ?_)
          refine lv_aload_n hx hb dX4_vial_68 rfl (lv_at hl 0 rfl) ?_
          refine lv_iload_n hx hb dX4_vial_69 rfl (lv_at hl 3 rfl) ?_
          refine go_i (ws' := [xc ax ar al at_ ah X, lc al ag ai L, gc ag G, gc ai I]) C (rn_V (As := [.int wh]) (rest := []) C (c_X0_tell l D cI ai I wh H.size) ck_X0_tell wd_2_56 wd_2_57 wd_2_55 ⟨Nat.le_of_ble_eq_true rfl, Nat.le_of_ble_eq_true rfl⟩ ⟨Nat.le_refl _, Nat.le_refl _⟩ (ci := 0) (q0 := 3) rfl rfl hP hD hS [3] rfl rfl hl rfl (Nat.le_of_ble_eq_true rfl) dX4_vial_70) hP hD hS [3] rfl rfl rfl (fun H locs hP hD hS => ?_)
          exact hend _ _ _ _ _ (by rw [← hr, r_X4_vial, if_neg c1, if_neg c2, if_neg c3, if_pos c4]) hP hS dX4_vial_73
        · refine lv_aload_n hx hb dX4_vial_50 rfl (lv_at hl 0 rfl) ?_
          refine kget (v := .ref al) C hP igX4 rfl 1 (by decide) wd_1_121 0 rfl rfl dX4_vial_51 ?_
          refine kget (v := .ref ag) C hP igX2 rfl 0 (by decide) wd_1_77 1 rfl rfl dX4_vial_54 ?_
          refine lv_goto (tgt := 67) hx hb dX4_vial_57 (by decide) ?_
          refine lv_astore_n (lv' := [(3, .ref ag), (0, .ref ax), (1, .int k), (2, .int wh)]) hx hb dX4_vial_67 rfl hl (by decide) rfl (fun ls hl => ?_)
          refine lv_aload_n hx hb dX4_vial_68 rfl (lv_at hl 0 rfl) ?_
          refine lv_iload_n hx hb dX4_vial_69 rfl (lv_at hl 3 rfl) ?_
          refine go_i (ws' := [xc ax ar al at_ ah X, lc al ag ai L, gc ag G, gc ai I]) C (rn_V (As := [.int wh]) (rest := []) C (c_X0_tell l D cI ag G wh H.size) ck_X0_tell wd_2_56 wd_2_57 wd_2_55 ⟨Nat.le_of_ble_eq_true rfl, Nat.le_of_ble_eq_true rfl⟩ ⟨Nat.le_refl _, Nat.le_refl _⟩ (ci := 0) (q0 := 2) rfl rfl hP hD hS [2] rfl rfl hl rfl (Nat.le_of_ble_eq_true rfl) dX4_vial_70) hP hD hS [2] rfl rfl rfl (fun H locs hP hD hS => ?_)
          exact hend _ _ _ _ _ (by rw [← hr, r_X4_vial, if_neg c1, if_neg c2, if_neg c3, if_neg c4]) hP hS dX4_vial_73
      · refine lv_sipush (v := (-10002)) hx hb dX4_vial_38 (by decide) ?_
        exact hend _ _ _ _ _ (by rw [← hr, r_X4_vial, if_neg c1, if_neg c2, if_pos c3]) hP hS dX4_vial_41
    · refine lv_sipush (v := (-10001)) hx hb dX4_vial_25 (by decide) ?_
      exact hend _ _ _ _ _ (by rw [← hr, r_X4_vial, if_neg c1, if_pos c2]) hP hS dX4_vial_28
  · refine lv_sipush (v := (-10003)) hx hb dX4_vial_7 (by decide) ?_
    exact hend _ _ _ _ _ (by rw [← hr, r_X4_vial, if_pos c1]) hP hS dX4_vial_10
def r_X4_about (X : Nat → Int32) (L : Nat → Int32) (G : Nat → Int32) (I : Nat → Int32) (wh : Int32) : Int32 := (if (r_X4_within wh 0 9) = 0 then (-10002) else (if wh = 8 then (X 6) else (if wh = 9 then (X 7) else (if (X 8) = 0 then (-10003) else (r_X2_tell L G I wh)))))
theorem ck_X4_about : CK yX4_about cX4_about 2 (some .int) 1 := ⟨wd_2_62, wd_1_1, by decide, by decide, by decide +kernel⟩
set_option maxHeartbeats 4000000 in
set_option maxRecDepth 100000 in
theorem c_X4_about (l : Launch) (D : va_G) (cI : ClassId) (ax : Nat) (ar : Nat) (al : Nat) (at_ : Nat) (ah : Nat) (X : Nat → Int32) (ag : Nat) (ai : Nat) (L : Nat → Int32) (G : Nat → Int32) (I : Nat → Int32) (wh : Int32) : MI l D cI yX4_about cX4_about 2 (some .int) 2 41 [.ref ax, .int wh] [xc ax ar al at_ ah X, lc al ag ai L, gc ag G, gc ai I] (r_X4_about X L G I wh) [xc ax ar al at_ ah X, lc al ag ai L, gc ag G, gc ai I] := by
  generalize hr : (r_X4_about X L G I wh) = r
  refine MI.mk (own := RX4) rfl (by decide) rfl (Nat.le_of_ble_eq_true rfl) ?_
  intro p e s m args below meth c A Q C hD hend H locs ls hP hS hl
  have hx := C.1.1
  have hb := C.1.2.1
  have hl : lv_has ls 2 [(0, .ref ax), (1, .int wh)] := hl
  refine lv_iload_n hx hb dX4_about_0 rfl (lv_at hl 1 rfl) ?_
  refine lv_iconst (v := 0) hx hb dX4_about_1 (by decide) ?_
  refine lv_bipush (v := 9) hx hb dX4_about_2 (by decide) ?_
  refine go_i (ws' := [xc ax ar al at_ ah X, lc al ag ai L, gc ag G, gc ai I]) C (rn_S (As := [.int wh, .int 0, .int 9]) (rest := []) C (c_X4_within l D cI wh 0 9 H.size) ck_X4_within wd_1_156 wd_1_155 ⟨Nat.le_of_ble_eq_true rfl, Nat.le_of_ble_eq_true rfl⟩ ⟨Nat.le_refl _, Nat.le_refl _⟩ hP hD hS [] rfl rfl hl rfl (Nat.le_of_ble_eq_true rfl) dX4_about_4) hP hD hS [] rfl rfl rfl (fun H locs hP hD hS => ?_)
  refine lv_if_ne (tgt := 14) hx hb dX4_about_7 (by decide) (fun c1 => ?_) (fun c1 => ?_)
  · refine lv_iload_n hx hb dX4_about_14 rfl (lv_at hl 1 rfl) ?_
    refine lv_bipush (v := 8) hx hb dX4_about_15 (by decide) ?_
    refine lv_icmp_ne (tgt := 25) hx hb dX4_about_17 (by decide) (fun c2 => ?_) (fun c2 => ?_)
    · refine lv_iload_n hx hb dX4_about_25 rfl (lv_at hl 1 rfl) ?_
      refine lv_bipush (v := 9) hx hb dX4_about_26 (by decide) ?_
      refine lv_icmp_ne (tgt := 36) hx hb dX4_about_28 (by decide) (fun c3 => ?_) (fun c3 => ?_)
      · refine lv_aload_n hx hb dX4_about_36 rfl (lv_at hl 0 rfl) ?_
        refine kget (v := .int (X 8)) C hP igX4 rfl 8 (by decide) wd_1_128 0 rfl rfl dX4_about_37 ?_
        refine lv_if_eq (tgt := 54) hx hb dX4_about_40 (by decide) (fun c4 => ?_) (fun c4 => ?_)
        · refine lv_sipush (v := (-10003)) hx hb dX4_about_54 (by decide) ?_
          exact hend _ _ _ _ _ (by rw [← hr, r_X4_about, if_neg c1, if_neg c2, if_neg c3, if_pos c4]) hP hS dX4_about_57
        · refine lv_aload_n hx hb dX4_about_43 rfl (lv_at hl 0 rfl) ?_
          refine kget (v := .ref al) C hP igX4 rfl 1 (by decide) wd_1_121 0 rfl rfl dX4_about_44 ?_
          refine lv_iload_n hx hb dX4_about_47 rfl (lv_at hl 1 rfl) ?_
          refine go_i (ws' := [xc ax ar al at_ ah X, lc al ag ai L, gc ag G, gc ai I]) C (rn_V (As := [.int wh]) (rest := []) C (c_X2_tell l D cI al ag ai L G I wh H.size) ck_X2_tell wd_2_64 wd_2_65 wd_2_63 ⟨Nat.le_of_ble_eq_true rfl, Nat.le_of_ble_eq_true rfl⟩ ⟨Nat.le_refl _, Nat.le_refl _⟩ (ci := 2) (q0 := 1) rfl rfl hP hD hS [1, 2, 3] rfl rfl hl rfl (Nat.le_of_ble_eq_true rfl) dX4_about_48) hP hD hS [1, 2, 3] rfl rfl rfl (fun H locs hP hD hS => ?_)
          refine lv_goto (tgt := 57) hx hb dX4_about_51 (by decide) ?_
          exact hend _ _ _ _ _ (by rw [← hr, r_X4_about, if_neg c1, if_neg c2, if_neg c3, if_neg c4]) hP hS dX4_about_57
      · refine lv_aload_n hx hb dX4_about_31 rfl (lv_at hl 0 rfl) ?_
        refine kget (v := .int (X 7)) C hP igX4 rfl 7 (by decide) wd_1_127 0 rfl rfl dX4_about_32 ?_
        exact hend _ _ _ _ _ (by rw [← hr, r_X4_about, if_neg c1, if_neg c2, if_pos c3]) hP hS dX4_about_35
    · refine lv_aload_n hx hb dX4_about_20 rfl (lv_at hl 0 rfl) ?_
      refine kget (v := .int (X 6)) C hP igX4 rfl 6 (by decide) wd_1_126 0 rfl rfl dX4_about_21 ?_
      exact hend _ _ _ _ _ (by rw [← hr, r_X4_about, if_neg c1, if_pos c2]) hP hS dX4_about_24
  · refine lv_sipush (v := (-10002)) hx hb dX4_about_10 (by decide) ?_
    exact hend _ _ _ _ _ (by rw [← hr, r_X4_about, if_pos c1]) hP hS dX4_about_13
def r_X4_gauge (X : Nat → Int32) (L : Nat → Int32) (o1 : Nat → Int32) (o2 : Nat → Int32) (mi : Int32) (wh : Int32) : Int32 := (if (X 8) = 0 then (-3) else (if (r_X4_within mi 1 (L 2)) = 0 then (-1) else (if (r_X4_within wh 0 1) = 0 then (-2) else (if wh = 0 then (r_X1_oneAt o1 mi) else (r_X1_otherAt o2 mi)))))
theorem ck_X4_gauge : CK yX4_gauge cX4_gauge 3 (some .int) 2 := ⟨wd_2_75, wd_1_1, by decide, by decide, by decide +kernel⟩
set_option maxHeartbeats 4000000 in
set_option maxRecDepth 100000 in
theorem c_X4_gauge (l : Launch) (D : va_G) (cI : ClassId) (ax : Nat) (ar : Nat) (al : Nat) (at_ : Nat) (ah : Nat) (X : Nat → Int32) (ag : Nat) (ai : Nat) (L : Nat → Int32) (a1 : Nat) (a2 : Nat) (a3 : Nat) (o1 : Nat → Int32) (o2 : Nat → Int32) (o3 : Nat → Int32) (mi : Int32) (wh : Int32) : MI l D cI yX4_gauge cX4_gauge 3 (some .int) 3 63 [.ref ax, .int mi, .int wh] [xc ax ar al at_ ah X, lc al ag ai L, hc ah a1 a2 a3, ac cI a1 2001 o1, ac cI a2 2001 o2, ac cI a3 2001 o3] (r_X4_gauge X L o1 o2 mi wh) [xc ax ar al at_ ah X, lc al ag ai L, hc ah a1 a2 a3, ac cI a1 2001 o1, ac cI a2 2001 o2, ac cI a3 2001 o3] := by
  generalize hr : (r_X4_gauge X L o1 o2 mi wh) = r
  refine MI.mk (own := RX4) rfl (by decide) rfl (Nat.le_of_ble_eq_true rfl) ?_
  intro p e s m args below meth c A Q C hD hend H locs ls hP hS hl
  have hx := C.1.1
  have hb := C.1.2.1
  have hl : lv_has ls 3 [(0, .ref ax), (1, .int mi), (2, .int wh)] := hl
  refine lv_aload_n hx hb dX4_gauge_0 rfl (lv_at hl 0 rfl) ?_
  refine kget (v := .int (X 8)) C hP igX4 rfl 8 (by decide) wd_1_128 0 rfl rfl dX4_gauge_1 ?_
  refine lv_if_ne (tgt := 10) hx hb dX4_gauge_4 (by decide) (fun c1 => ?_) (fun c1 => ?_)
  · refine lv_iload_n hx hb dX4_gauge_10 rfl (lv_at hl 1 rfl) ?_
    refine lv_iconst (v := 1) hx hb dX4_gauge_11 (by decide) ?_
    refine lv_aload_n hx hb dX4_gauge_12 rfl (lv_at hl 0 rfl) ?_
    refine kget (v := .ref al) C hP igX4 rfl 1 (by decide) wd_1_121 0 rfl rfl dX4_gauge_13 ?_
    refine kget (v := .int (L 2)) C hP igX2 rfl 2 (by decide) wd_1_82 1 rfl rfl dX4_gauge_16 ?_
    refine go_i (ws' := [xc ax ar al at_ ah X, lc al ag ai L, hc ah a1 a2 a3, ac cI a1 2001 o1, ac cI a2 2001 o2, ac cI a3 2001 o3]) C (rn_S (As := [.int mi, .int 1, .int (L 2)]) (rest := []) C (c_X4_within l D cI mi 1 (L 2) H.size) ck_X4_within wd_1_156 wd_1_155 ⟨Nat.le_of_ble_eq_true rfl, Nat.le_of_ble_eq_true rfl⟩ ⟨Nat.le_refl _, Nat.le_refl _⟩ hP hD hS [] rfl rfl hl rfl (Nat.le_of_ble_eq_true rfl) dX4_gauge_19) hP hD hS [] rfl rfl rfl (fun H locs hP hD hS => ?_)
    refine lv_if_ne (tgt := 27) hx hb dX4_gauge_22 (by decide) (fun c2 => ?_) (fun c2 => ?_)
    · refine lv_iload_n hx hb dX4_gauge_27 rfl (lv_at hl 2 rfl) ?_
      refine lv_iconst (v := 0) hx hb dX4_gauge_28 (by decide) ?_
      refine lv_iconst (v := 1) hx hb dX4_gauge_29 (by decide) ?_
      refine go_i (ws' := [xc ax ar al at_ ah X, lc al ag ai L, hc ah a1 a2 a3, ac cI a1 2001 o1, ac cI a2 2001 o2, ac cI a3 2001 o3]) C (rn_S (As := [.int wh, .int 0, .int 1]) (rest := []) C (c_X4_within l D cI wh 0 1 H.size) ck_X4_within wd_1_156 wd_1_155 ⟨Nat.le_of_ble_eq_true rfl, Nat.le_of_ble_eq_true rfl⟩ ⟨Nat.le_refl _, Nat.le_refl _⟩ hP hD hS [] rfl rfl hl rfl (Nat.le_of_ble_eq_true rfl) dX4_gauge_30) hP hD hS [] rfl rfl rfl (fun H locs hP hD hS => ?_)
      refine lv_if_ne (tgt := 39) hx hb dX4_gauge_33 (by decide) (fun c3 => ?_) (fun c3 => ?_)
      · refine lv_iload_n hx hb dX4_gauge_39 rfl (lv_at hl 2 rfl) ?_
        refine lv_if_ne (tgt := 54) hx hb dX4_gauge_40 (by decide) (fun c4 => ?_) (fun c4 => ?_)
        · refine lv_aload_n hx hb dX4_gauge_54 rfl (lv_at hl 0 rfl) ?_
          refine kget (v := .ref ah) C hP igX4 rfl 3 (by decide) wd_1_123 0 rfl rfl dX4_gauge_55 ?_
          refine lv_iload_n hx hb dX4_gauge_58 rfl (lv_at hl 1 rfl) ?_
          refine go_i (ws' := [xc ax ar al at_ ah X, lc al ag ai L, hc ah a1 a2 a3, ac cI a1 2001 o1, ac cI a2 2001 o2, ac cI a3 2001 o3]) C (rn_V (As := [.int mi]) (rest := []) C (c_X1_otherAt l D cI ah a1 a2 a3 o1 o2 o3 mi H.size) ck_X1_otherAt wd_2_81 wd_2_82 wd_2_80 ⟨Nat.le_of_ble_eq_true rfl, Nat.le_of_ble_eq_true rfl⟩ ⟨Nat.le_refl _, Nat.le_refl _⟩ (ci := 1) (q0 := 2) rfl rfl hP hD hS [2, 3, 4, 5] rfl rfl hl rfl (Nat.le_of_ble_eq_true rfl) dX4_gauge_59) hP hD hS [2, 3, 4, 5] rfl rfl rfl (fun H locs hP hD hS => ?_)
          exact hend _ _ _ _ _ (by rw [← hr, r_X4_gauge, if_neg c1, if_neg c2, if_neg c3, if_neg c4]) hP hS dX4_gauge_62
        · refine lv_aload_n hx hb dX4_gauge_43 rfl (lv_at hl 0 rfl) ?_
          refine kget (v := .ref ah) C hP igX4 rfl 3 (by decide) wd_1_123 0 rfl rfl dX4_gauge_44 ?_
          refine lv_iload_n hx hb dX4_gauge_47 rfl (lv_at hl 1 rfl) ?_
          refine go_i (ws' := [xc ax ar al at_ ah X, lc al ag ai L, hc ah a1 a2 a3, ac cI a1 2001 o1, ac cI a2 2001 o2, ac cI a3 2001 o3]) C (rn_V (As := [.int mi]) (rest := []) C (c_X1_oneAt l D cI ah a1 a2 a3 o1 o2 o3 mi H.size) ck_X1_oneAt wd_2_77 wd_2_78 wd_2_76 ⟨Nat.le_of_ble_eq_true rfl, Nat.le_of_ble_eq_true rfl⟩ ⟨Nat.le_refl _, Nat.le_refl _⟩ (ci := 1) (q0 := 2) rfl rfl hP hD hS [2, 3, 4, 5] rfl rfl hl rfl (Nat.le_of_ble_eq_true rfl) dX4_gauge_48) hP hD hS [2, 3, 4, 5] rfl rfl rfl (fun H locs hP hD hS => ?_)
          refine lv_goto (tgt := 62) hx hb dX4_gauge_51 (by decide) ?_
          exact hend _ _ _ _ _ (by rw [← hr, r_X4_gauge, if_neg c1, if_neg c2, if_neg c3, if_pos c4]) hP hS dX4_gauge_62
      · refine lv_bipush (v := (-2)) hx hb dX4_gauge_36 (by decide) ?_
        exact hend _ _ _ _ _ (by rw [← hr, r_X4_gauge, if_neg c1, if_neg c2, if_pos c3]) hP hS dX4_gauge_38
    · refine lv_iconst (v := (-1)) hx hb dX4_gauge_25 (by decide) ?_
      exact hend _ _ _ _ _ (by rw [← hr, r_X4_gauge, if_neg c1, if_pos c2]) hP hS dX4_gauge_26
  · refine lv_bipush (v := (-3)) hx hb dX4_gauge_7 (by decide) ?_
    exact hend _ _ _ _ _ (by rw [← hr, r_X4_gauge, if_pos c1]) hP hS dX4_gauge_9
noncomputable def r_X4_end (X : Nat → Int32) (L : Nat → Int32) (o1 : Nat → Int32) (o2 : Nat → Int32) (to : Int32) (hd : Int32) : Int32 := (if (r_X4_within to 0 100) = 0 then (-2) else (if (r_X4_within hd 1 60) = 0 then (-2) else (if (X 8) = 0 then (-3) else (r_X1_findEnd o1 o2 (L 2) to hd))))
theorem ck_X4_end : CK yX4_end cX4_end 3 (some .int) 2 := ⟨wd_2_87, wd_1_1, by decide, by decide, by decide +kernel⟩
set_option maxHeartbeats 4000000 in
set_option maxRecDepth 100000 in
theorem c_X4_end (l : Launch) (D : va_G) (cI : ClassId) (ax : Nat) (ar : Nat) (al : Nat) (at_ : Nat) (ah : Nat) (X : Nat → Int32) (ag : Nat) (ai : Nat) (L : Nat → Int32) (a1 : Nat) (a2 : Nat) (a3 : Nat) (o1 : Nat → Int32) (o2 : Nat → Int32) (o3 : Nat → Int32) (to : Int32) (hd : Int32) (hmo : Int32.toInt (L 2) < 2147483647) : MI l D cI yX4_end cX4_end 3 (some .int) 4 88 [.ref ax, .int to, .int hd] [xc ax ar al at_ ah X, lc al ag ai L, hc ah a1 a2 a3, ac cI a1 2001 o1, ac cI a2 2001 o2, ac cI a3 2001 o3] (r_X4_end X L o1 o2 to hd) [xc ax ar al at_ ah X, lc al ag ai L, hc ah a1 a2 a3, ac cI a1 2001 o1, ac cI a2 2001 o2, ac cI a3 2001 o3] := by
  generalize hr : (r_X4_end X L o1 o2 to hd) = r
  refine MI.mk (own := RX4) rfl (by decide) rfl (Nat.le_of_ble_eq_true rfl) ?_
  intro p e s m args below meth c A Q C hD hend H locs ls hP hS hl
  have hx := C.1.1
  have hb := C.1.2.1
  have hl : lv_has ls 3 [(0, .ref ax), (1, .int to), (2, .int hd)] := hl
  refine lv_iload_n hx hb dX4_end_0 rfl (lv_at hl 1 rfl) ?_
  refine lv_iconst (v := 0) hx hb dX4_end_1 (by decide) ?_
  refine lv_bipush (v := 100) hx hb dX4_end_2 (by decide) ?_
  refine go_i (ws' := [xc ax ar al at_ ah X, lc al ag ai L, hc ah a1 a2 a3, ac cI a1 2001 o1, ac cI a2 2001 o2, ac cI a3 2001 o3]) C (rn_S (As := [.int to, .int 0, .int 100]) (rest := []) C (c_X4_within l D cI to 0 100 H.size) ck_X4_within wd_1_156 wd_1_155 ⟨Nat.le_of_ble_eq_true rfl, Nat.le_of_ble_eq_true rfl⟩ ⟨Nat.le_refl _, Nat.le_refl _⟩ hP hD hS [] rfl rfl hl rfl (Nat.le_of_ble_eq_true rfl) dX4_end_4) hP hD hS [] rfl rfl rfl (fun H locs hP hD hS => ?_)
  refine lv_if_eq (tgt := 20) hx hb dX4_end_7 (by decide) (fun c1 => ?_) (fun c1 => ?_)
  · refine lv_bipush (v := (-2)) hx hb dX4_end_20 (by decide) ?_
    exact hend _ _ _ _ _ (by rw [← hr, r_X4_end, if_pos c1]) hP hS dX4_end_22
  · refine lv_iload_n hx hb dX4_end_10 rfl (lv_at hl 2 rfl) ?_
    refine lv_iconst (v := 1) hx hb dX4_end_11 (by decide) ?_
    refine lv_bipush (v := 60) hx hb dX4_end_12 (by decide) ?_
    refine go_i (ws' := [xc ax ar al at_ ah X, lc al ag ai L, hc ah a1 a2 a3, ac cI a1 2001 o1, ac cI a2 2001 o2, ac cI a3 2001 o3]) C (rn_S (As := [.int hd, .int 1, .int 60]) (rest := []) C (c_X4_within l D cI hd 1 60 H.size) ck_X4_within wd_1_156 wd_1_155 ⟨Nat.le_of_ble_eq_true rfl, Nat.le_of_ble_eq_true rfl⟩ ⟨Nat.le_refl _, Nat.le_refl _⟩ hP hD hS [] rfl rfl hl rfl (Nat.le_of_ble_eq_true rfl) dX4_end_14) hP hD hS [] rfl rfl rfl (fun H locs hP hD hS => ?_)
    refine lv_if_ne (tgt := 23) hx hb dX4_end_17 (by decide) (fun c2 => ?_) (fun c2 => ?_)
    · refine lv_aload_n hx hb dX4_end_23 rfl (lv_at hl 0 rfl) ?_
      refine kget (v := .int (X 8)) C hP igX4 rfl 8 (by decide) wd_1_128 0 rfl rfl dX4_end_24 ?_
      refine lv_if_eq (tgt := 49) hx hb dX4_end_27 (by decide) (fun c3 => ?_) (fun c3 => ?_)
      · refine lv_bipush (v := (-3)) hx hb dX4_end_49 (by decide) ?_
        exact hend _ _ _ _ _ (by rw [← hr, r_X4_end, if_neg c1, if_neg c2, if_pos c3]) hP hS dX4_end_51
      · refine lv_aload_n hx hb dX4_end_30 rfl (lv_at hl 0 rfl) ?_
        refine kget (v := .ref ah) C hP igX4 rfl 3 (by decide) wd_1_123 0 rfl rfl dX4_end_31 ?_
        refine lv_aload_n hx hb dX4_end_34 rfl (lv_at hl 0 rfl) ?_
        refine kget (v := .ref al) C hP igX4 rfl 1 (by decide) wd_1_121 0 rfl rfl dX4_end_35 ?_
        refine kget (v := .int (L 2)) C hP igX2 rfl 2 (by decide) wd_1_82 1 rfl rfl dX4_end_38 ?_
        refine lv_iload_n hx hb dX4_end_41 rfl (lv_at hl 1 rfl) ?_
        refine lv_iload_n hx hb dX4_end_42 rfl (lv_at hl 2 rfl) ?_
        refine go_i (ws' := [xc ax ar al at_ ah X, lc al ag ai L, hc ah a1 a2 a3, ac cI a1 2001 o1, ac cI a2 2001 o2, ac cI a3 2001 o3]) C (rn_V (As := [.int (L 2), .int to, .int hd]) (rest := []) C (c_X1_findEnd l D cI ah a1 a2 a3 o1 o2 o3 (L 2) to hd hmo H.size) ck_X1_findEnd wd_2_89 wd_2_90 wd_2_88 ⟨Nat.le_of_ble_eq_true rfl, Nat.le_of_ble_eq_true rfl⟩ ⟨Nat.le_refl _, Nat.le_refl _⟩ (ci := 1) (q0 := 2) rfl rfl hP hD hS [2, 3, 4, 5] rfl rfl hl rfl (Nat.le_of_ble_eq_true rfl) dX4_end_43) hP hD hS [2, 3, 4, 5] rfl rfl rfl (fun H locs hP hD hS => ?_)
        refine lv_goto (tgt := 51) hx hb dX4_end_46 (by decide) ?_
        exact hend _ _ _ _ _ (by rw [← hr, r_X4_end, if_neg c1, if_neg c2, if_neg c3]) hP hS dX4_end_51
    · refine lv_bipush (v := (-2)) hx hb dX4_end_20 (by decide) ?_
      exact hend _ _ _ _ _ (by rw [← hr, r_X4_end, if_neg c1, if_pos c2]) hP hS dX4_end_22
def r_X4_wet (X : Nat → Int32) (L : Nat → Int32) (o3 : Nat → Int32) (mi : Int32) : Int32 := (if (X 8) = 0 then (-3) else (if (r_X4_within mi 0 (L 2)) = 0 then (-1) else (r_X1_withIceAt o3 mi)))
theorem ck_X4_wet : CK yX4_wet cX4_wet 2 (some .int) 1 := ⟨wd_2_97, wd_1_1, by decide, by decide, by decide +kernel⟩
set_option maxHeartbeats 4000000 in
set_option maxRecDepth 100000 in
theorem c_X4_wet (l : Launch) (D : va_G) (cI : ClassId) (ax : Nat) (ar : Nat) (al : Nat) (at_ : Nat) (ah : Nat) (X : Nat → Int32) (ag : Nat) (ai : Nat) (L : Nat → Int32) (a1 : Nat) (a2 : Nat) (a3 : Nat) (o1 : Nat → Int32) (o2 : Nat → Int32) (o3 : Nat → Int32) (mi : Int32) : MI l D cI yX4_wet cX4_wet 2 (some .int) 3 63 [.ref ax, .int mi] [xc ax ar al at_ ah X, lc al ag ai L, hc ah a1 a2 a3, ac cI a1 2001 o1, ac cI a2 2001 o2, ac cI a3 2001 o3] (r_X4_wet X L o3 mi) [xc ax ar al at_ ah X, lc al ag ai L, hc ah a1 a2 a3, ac cI a1 2001 o1, ac cI a2 2001 o2, ac cI a3 2001 o3] := by
  generalize hr : (r_X4_wet X L o3 mi) = r
  refine MI.mk (own := RX4) rfl (by decide) rfl (Nat.le_of_ble_eq_true rfl) ?_
  intro p e s m args below meth c A Q C hD hend H locs ls hP hS hl
  have hx := C.1.1
  have hb := C.1.2.1
  have hl : lv_has ls 2 [(0, .ref ax), (1, .int mi)] := hl
  refine lv_aload_n hx hb dX4_wet_0 rfl (lv_at hl 0 rfl) ?_
  refine kget (v := .int (X 8)) C hP igX4 rfl 8 (by decide) wd_1_128 0 rfl rfl dX4_wet_1 ?_
  refine lv_if_ne (tgt := 10) hx hb dX4_wet_4 (by decide) (fun c1 => ?_) (fun c1 => ?_)
  · refine lv_iload_n hx hb dX4_wet_10 rfl (lv_at hl 1 rfl) ?_
    refine lv_iconst (v := 0) hx hb dX4_wet_11 (by decide) ?_
    refine lv_aload_n hx hb dX4_wet_12 rfl (lv_at hl 0 rfl) ?_
    refine kget (v := .ref al) C hP igX4 rfl 1 (by decide) wd_1_121 0 rfl rfl dX4_wet_13 ?_
    refine kget (v := .int (L 2)) C hP igX2 rfl 2 (by decide) wd_1_82 1 rfl rfl dX4_wet_16 ?_
    refine go_i (ws' := [xc ax ar al at_ ah X, lc al ag ai L, hc ah a1 a2 a3, ac cI a1 2001 o1, ac cI a2 2001 o2, ac cI a3 2001 o3]) C (rn_S (As := [.int mi, .int 0, .int (L 2)]) (rest := []) C (c_X4_within l D cI mi 0 (L 2) H.size) ck_X4_within wd_1_156 wd_1_155 ⟨Nat.le_of_ble_eq_true rfl, Nat.le_of_ble_eq_true rfl⟩ ⟨Nat.le_refl _, Nat.le_refl _⟩ hP hD hS [] rfl rfl hl rfl (Nat.le_of_ble_eq_true rfl) dX4_wet_19) hP hD hS [] rfl rfl rfl (fun H locs hP hD hS => ?_)
    refine lv_if_eq (tgt := 36) hx hb dX4_wet_22 (by decide) (fun c2 => ?_) (fun c2 => ?_)
    · refine lv_iconst (v := (-1)) hx hb dX4_wet_36 (by decide) ?_
      exact hend _ _ _ _ _ (by rw [← hr, r_X4_wet, if_neg c1, if_pos c2]) hP hS dX4_wet_37
    · refine lv_aload_n hx hb dX4_wet_25 rfl (lv_at hl 0 rfl) ?_
      refine kget (v := .ref ah) C hP igX4 rfl 3 (by decide) wd_1_123 0 rfl rfl dX4_wet_26 ?_
      refine lv_iload_n hx hb dX4_wet_29 rfl (lv_at hl 1 rfl) ?_
      refine go_i (ws' := [xc ax ar al at_ ah X, lc al ag ai L, hc ah a1 a2 a3, ac cI a1 2001 o1, ac cI a2 2001 o2, ac cI a3 2001 o3]) C (rn_V (As := [.int mi]) (rest := []) C (c_X1_withIceAt l D cI ah a1 a2 a3 o1 o2 o3 mi H.size) ck_X1_withIceAt wd_2_99 wd_2_100 wd_2_98 ⟨Nat.le_of_ble_eq_true rfl, Nat.le_of_ble_eq_true rfl⟩ ⟨Nat.le_refl _, Nat.le_refl _⟩ (ci := 1) (q0 := 2) rfl rfl hP hD hS [2, 3, 4, 5] rfl rfl hl rfl (Nat.le_of_ble_eq_true rfl) dX4_wet_30) hP hD hS [2, 3, 4, 5] rfl rfl rfl (fun H locs hP hD hS => ?_)
      refine lv_goto (tgt := 37) hx hb dX4_wet_33 (by decide) ?_
      exact hend _ _ _ _ _ (by rw [← hr, r_X4_wet, if_neg c1, if_neg c2]) hP hS dX4_wet_37
  · refine lv_bipush (v := (-3)) hx hb dX4_wet_7 (by decide) ?_
    exact hend _ _ _ _ _ (by rw [← hr, r_X4_wet, if_pos c1]) hP hS dX4_wet_9
def r_X4_firstFallen (X : Nat → Int32) (G : Nat → Int32) (I : Nat → Int32) : Int32 := (if (X 8) = 0 then (-3) else (r_X2_firstVialToFall G I))
theorem ck_X4_firstFallen : CK yX4_firstFallen cX4_firstFallen 1 (some .int) 0 := ⟨wd_2_105, wd_1_1, by decide, by decide, by decide +kernel⟩
set_option maxHeartbeats 4000000 in
set_option maxRecDepth 100000 in
theorem c_X4_firstFallen (l : Launch) (D : va_G) (cI : ClassId) (ax : Nat) (ar : Nat) (al : Nat) (at_ : Nat) (ah : Nat) (X : Nat → Int32) (ag : Nat) (ai : Nat) (L : Nat → Int32) (G : Nat → Int32) (I : Nat → Int32) : MI l D cI yX4_firstFallen cX4_firstFallen 1 (some .int) 2 42 [.ref ax] [xc ax ar al at_ ah X, lc al ag ai L, gc ag G, gc ai I] (r_X4_firstFallen X G I) [xc ax ar al at_ ah X, lc al ag ai L, gc ag G, gc ai I] := by
  generalize hr : (r_X4_firstFallen X G I) = r
  refine MI.mk (own := RX4) rfl (by decide) rfl (Nat.le_of_ble_eq_true rfl) ?_
  intro p e s m args below meth c A Q C hD hend H locs ls hP hS hl
  have hx := C.1.1
  have hb := C.1.2.1
  have hl : lv_has ls 1 [(0, .ref ax)] := hl
  refine lv_aload_n hx hb dX4_firstFallen_0 rfl (lv_at hl 0 rfl) ?_
  refine kget (v := .int (X 8)) C hP igX4 rfl 8 (by decide) wd_1_128 0 rfl rfl dX4_firstFallen_1 ?_
  refine lv_if_eq (tgt := 17) hx hb dX4_firstFallen_4 (by decide) (fun c1 => ?_) (fun c1 => ?_)
  · refine lv_bipush (v := (-3)) hx hb dX4_firstFallen_17 (by decide) ?_
    exact hend _ _ _ _ _ (by rw [← hr, r_X4_firstFallen, if_pos c1]) hP hS dX4_firstFallen_19
  · refine lv_aload_n hx hb dX4_firstFallen_7 rfl (lv_at hl 0 rfl) ?_
    refine kget (v := .ref al) C hP igX4 rfl 1 (by decide) wd_1_121 0 rfl rfl dX4_firstFallen_8 ?_
    refine go_i (ws' := [xc ax ar al at_ ah X, lc al ag ai L, gc ag G, gc ai I]) C (rn_V (As := []) (rest := []) C (c_X2_firstVialToFall l D cI al ag ai L G I H.size) ck_X2_firstVialToFall wd_2_107 wd_2_108 wd_2_106 ⟨Nat.le_of_ble_eq_true rfl, Nat.le_of_ble_eq_true rfl⟩ ⟨Nat.le_refl _, Nat.le_refl _⟩ (ci := 2) (q0 := 1) rfl rfl hP hD hS [1, 2, 3] rfl rfl hl rfl (Nat.le_of_ble_eq_true rfl) dX4_firstFallen_11) hP hD hS [1, 2, 3] rfl rfl rfl (fun H locs hP hD hS => ?_)
    refine lv_goto (tgt := 19) hx hb dX4_firstFallen_14 (by decide) ?_
    exact hend _ _ _ _ _ (by rw [← hr, r_X4_firstFallen, if_neg c1]) hP hS dX4_firstFallen_19
end
section
noncomputable def lr_X4_noneFalls_23 (X : Nat → Int32) (R : Nat → Int32) (t : Int32) (p0 : Int32) (mn : Int32) : Nat → (Int32) → (Nat → Int32) → (Nat → Int32) → (Nat → Int32) → (Int32)
  | 0, _, _, _, _ => 0
  | n + 1, i, L2, G2, I2 => (if mn ≤ i then (if (r_X2_fallenVials G2 I2) = 0 then 1 else 0) else (if (r_X2_vialsWithIce G2 I2) ≤ 0 then (if (r_X2_fallenVials G2 I2) = 0 then 1 else 0) else (lr_X4_noneFalls_23 X R t p0 mn n (i + 1) (q_X2_passMinute_L L2 G2 I2 R t p0) (q_X2_passMinute_G L2 G2 R t) (q_X2_passMinute_I L2 I2 R t))))
noncomputable def lq_X4_noneFalls_23_X (X : Nat → Int32) (R : Nat → Int32) (t : Int32) (p0 : Int32) (mn : Int32) : Nat → (Int32) → (Nat → Int32) → (Nat → Int32) → (Nat → Int32) → (Nat → Int32)
  | 0, _, _, _, _ => fun _ => 0
  | n + 1, i, L2, G2, I2 => (if mn ≤ i then (if (r_X2_fallenVials G2 I2) = 0 then (x10 (X 4) (X 5) (X 6) (X 7) (X 8) 1) else (x10 (X 4) (X 5) (X 6) (X 7) (X 8) 1)) else (if (r_X2_vialsWithIce G2 I2) ≤ 0 then (if (r_X2_fallenVials G2 I2) = 0 then (x10 (X 4) (X 5) (X 6) (X 7) (X 8) 1) else (x10 (X 4) (X 5) (X 6) (X 7) (X 8) 1)) else (lq_X4_noneFalls_23_X X R t p0 mn n (i + 1) (q_X2_passMinute_L L2 G2 I2 R t p0) (q_X2_passMinute_G L2 G2 R t) (q_X2_passMinute_I L2 I2 R t))))
noncomputable def lq_X4_noneFalls_23_L2 (X : Nat → Int32) (R : Nat → Int32) (t : Int32) (p0 : Int32) (mn : Int32) : Nat → (Int32) → (Nat → Int32) → (Nat → Int32) → (Nat → Int32) → (Nat → Int32)
  | 0, _, _, _, _ => fun _ => 0
  | n + 1, i, L2, G2, I2 => (if mn ≤ i then (if (r_X2_fallenVials G2 I2) = 0 then L2 else L2) else (if (r_X2_vialsWithIce G2 I2) ≤ 0 then (if (r_X2_fallenVials G2 I2) = 0 then L2 else L2) else (lq_X4_noneFalls_23_L2 X R t p0 mn n (i + 1) (q_X2_passMinute_L L2 G2 I2 R t p0) (q_X2_passMinute_G L2 G2 R t) (q_X2_passMinute_I L2 I2 R t))))
noncomputable def lq_X4_noneFalls_23_G2 (X : Nat → Int32) (R : Nat → Int32) (t : Int32) (p0 : Int32) (mn : Int32) : Nat → (Int32) → (Nat → Int32) → (Nat → Int32) → (Nat → Int32) → (Nat → Int32)
  | 0, _, _, _, _ => fun _ => 0
  | n + 1, i, L2, G2, I2 => (if mn ≤ i then (if (r_X2_fallenVials G2 I2) = 0 then G2 else G2) else (if (r_X2_vialsWithIce G2 I2) ≤ 0 then (if (r_X2_fallenVials G2 I2) = 0 then G2 else G2) else (lq_X4_noneFalls_23_G2 X R t p0 mn n (i + 1) (q_X2_passMinute_L L2 G2 I2 R t p0) (q_X2_passMinute_G L2 G2 R t) (q_X2_passMinute_I L2 I2 R t))))
noncomputable def lq_X4_noneFalls_23_I2 (X : Nat → Int32) (R : Nat → Int32) (t : Int32) (p0 : Int32) (mn : Int32) : Nat → (Int32) → (Nat → Int32) → (Nat → Int32) → (Nat → Int32) → (Nat → Int32)
  | 0, _, _, _, _ => fun _ => 0
  | n + 1, i, L2, G2, I2 => (if mn ≤ i then (if (r_X2_fallenVials G2 I2) = 0 then I2 else I2) else (if (r_X2_vialsWithIce G2 I2) ≤ 0 then (if (r_X2_fallenVials G2 I2) = 0 then I2 else I2) else (lq_X4_noneFalls_23_I2 X R t p0 mn n (i + 1) (q_X2_passMinute_L L2 G2 I2 R t p0) (q_X2_passMinute_G L2 G2 R t) (q_X2_passMinute_I L2 I2 R t))))
noncomputable def r_X4_noneFalls (X : Nat → Int32) (R : Nat → Int32) (t : Int32) (p0 : Int32) (mn : Int32) : Int32 := (lr_X4_noneFalls_23 X R t p0 mn (fu ((Int32.toInt mn).toNat + 1)) 0 (q_X2_start_L p0) (q_X2_start_G R (X 4) (X 5)) (q_X2_start_I R (X 4) (X 5)))
noncomputable def q_X4_noneFalls_X (X : Nat → Int32) (R : Nat → Int32) (t : Int32) (p0 : Int32) (mn : Int32) : Nat → Int32 := (lq_X4_noneFalls_23_X X R t p0 mn (fu ((Int32.toInt mn).toNat + 1)) 0 (q_X2_start_L p0) (q_X2_start_G R (X 4) (X 5)) (q_X2_start_I R (X 4) (X 5)))
noncomputable def q_X4_noneFalls_L2 (X : Nat → Int32) (R : Nat → Int32) (t : Int32) (p0 : Int32) (mn : Int32) : Nat → Int32 := (lq_X4_noneFalls_23_L2 X R t p0 mn (fu ((Int32.toInt mn).toNat + 1)) 0 (q_X2_start_L p0) (q_X2_start_G R (X 4) (X 5)) (q_X2_start_I R (X 4) (X 5)))
noncomputable def q_X4_noneFalls_G2 (X : Nat → Int32) (R : Nat → Int32) (t : Int32) (p0 : Int32) (mn : Int32) : Nat → Int32 := (lq_X4_noneFalls_23_G2 X R t p0 mn (fu ((Int32.toInt mn).toNat + 1)) 0 (q_X2_start_L p0) (q_X2_start_G R (X 4) (X 5)) (q_X2_start_I R (X 4) (X 5)))
noncomputable def q_X4_noneFalls_I2 (X : Nat → Int32) (R : Nat → Int32) (t : Int32) (p0 : Int32) (mn : Int32) : Nat → Int32 := (lq_X4_noneFalls_23_I2 X R t p0 mn (fu ((Int32.toInt mn).toNat + 1)) 0 (q_X2_start_L p0) (q_X2_start_G R (X 4) (X 5)) (q_X2_start_I R (X 4) (X 5)))
theorem ck_X4_noneFalls : CK yX4_noneFalls cX4_noneFalls 5 (some .boolean) 3 := ⟨wd_2_124, wd_1_1, by decide, by decide, by decide +kernel⟩
theorem b_X4_noneFalls (X : Nat → Int32) (R : Nat → Int32) (t : Int32) (p0 : Int32) (mn : Int32) : (r_X4_noneFalls X R t p0 mn) = 0 ∨ (r_X4_noneFalls X R t p0 mn) = 1 := by
  have h : ∀ (n : Nat) (i : Int32) (L2 G2 I2 : Nat → Int32), lr_X4_noneFalls_23 X R t p0 mn n i L2 G2 I2 = 0 ∨ lr_X4_noneFalls_23 X R t p0 mn n i L2 G2 I2 = 1 := by
    intro n
    induction n with
    | zero => intro i L2 G2 I2; exact Or.inl rfl
    | succ n ih =>
      intro i L2 G2 I2
      rw [lr_X4_noneFalls_23]
      repeat' split
      all_goals first | exact Or.inl rfl | exact Or.inr rfl | exact ih _ _ _ _
  exact h _ _ _ _ _
set_option maxHeartbeats 4000000 in
set_option maxRecDepth 100000 in
theorem c_X4_noneFalls (l : Launch) (D : va_G) (cI : ClassId) (ax : Nat) (ar : Nat) (al : Nat) (at_ : Nat) (ah : Nat) (X : Nat → Int32) (av : Nat) (R : Nat → Int32) (tg : Nat) (ti : Nat) (L2 : Nat → Int32) (G2 : Nat → Int32) (I2 : Nat → Int32) (t : Int32) (p0 : Int32) (mn : Int32) : MI l D cI yX4_noneFalls cX4_noneFalls 5 (some .boolean) 5 125 [.ref ax, .int t, .int p0, .int mn] [xc ax ar al at_ ah X, rc ar av, ac cI av 11 R, lc at_ tg ti L2, gc tg G2, gc ti I2] (r_X4_noneFalls X R t p0 mn) [xc ax ar al at_ ah (q_X4_noneFalls_X X R t p0 mn), rc ar av, ac cI av 11 R, lc at_ tg ti (q_X4_noneFalls_L2 X R t p0 mn), gc tg (q_X4_noneFalls_G2 X R t p0 mn), gc ti (q_X4_noneFalls_I2 X R t p0 mn)] := by
  have hn : narrow .boolean (.int (r_X4_noneFalls X R t p0 mn)) = .int (r_X4_noneFalls X R t p0 mn) := nb (b_X4_noneFalls X R t p0 mn)
  generalize hr : (r_X4_noneFalls X R t p0 mn) = r at hn ⊢
  generalize ho_X : (q_X4_noneFalls_X X R t p0 mn) = o_X
  generalize ho_L2 : (q_X4_noneFalls_L2 X R t p0 mn) = o_L2
  generalize ho_G2 : (q_X4_noneFalls_G2 X R t p0 mn) = o_G2
  generalize ho_I2 : (q_X4_noneFalls_I2 X R t p0 mn) = o_I2
  refine MI.mk (own := RX4) rfl (by decide) hn (Nat.le_of_ble_eq_true rfl) ?_
  intro p e s m args below meth c A Q C hD hend H locs ls hP hS hl
  have hx := C.1.1
  have hb := C.1.2.1
  have hl : lv_has ls 5 [(0, .ref ax), (1, .int t), (2, .int p0), (3, .int mn)] := hl
  refine lv_aload_n hx hb dX4_noneFalls_0 rfl (lv_at hl 0 rfl) ?_
  refine kget (v := .ref at_) C hP igX4 rfl 2 (by decide) wd_1_122 0 rfl rfl dX4_noneFalls_1 ?_
  refine lv_aload_n hx hb dX4_noneFalls_4 rfl (lv_at hl 0 rfl) ?_
  refine kget (v := .ref ar) C hP igX4 rfl 0 (by decide) wd_1_120 0 rfl rfl dX4_noneFalls_5 ?_
  refine lv_aload_n hx hb dX4_noneFalls_8 rfl (lv_at hl 0 rfl) ?_
  refine kget (v := .int (X 4)) C hP igX4 rfl 4 (by decide) wd_1_124 0 rfl rfl dX4_noneFalls_9 ?_
  refine lv_aload_n hx hb dX4_noneFalls_12 rfl (lv_at hl 0 rfl) ?_
  refine kget (v := .int (X 5)) C hP igX4 rfl 5 (by decide) wd_1_125 0 rfl rfl dX4_noneFalls_13 ?_
  refine lv_iload_n hx hb dX4_noneFalls_16 rfl (lv_at hl 2 rfl) ?_
  refine go_v (ws' := [xc ax ar al at_ ah X, rc ar av, ac cI av 11 R, lc at_ tg ti (q_X2_start_L p0), gc tg (q_X2_start_G R (X 4) (X 5)), gc ti (q_X2_start_I R (X 4) (X 5))]) C (rn_V (As := [.ref ar, .int (X 4), .int (X 5), .int p0]) (rest := []) C (c_X2_start l D cI at_ tg ti L2 G2 I2 ar av R (X 4) (X 5) p0 H.size) ck_X2_start wd_1_224 wd_1_225 wd_1_223 ⟨Nat.le_of_ble_eq_true rfl, Nat.le_of_ble_eq_true rfl⟩ ⟨Nat.le_refl _, Nat.le_refl _⟩ (ci := 2) (q0 := 3) rfl rfl hP hD hS [3, 4, 5, 1, 2] rfl rfl hl rfl (Nat.le_of_ble_eq_true rfl) dX4_noneFalls_17) hP hD hS [3, 4, 5, 1, 2] rfl rfl rfl (fun H locs hP hD hS => ?_)
  refine lv_iconst (v := 0) hx hb dX4_noneFalls_20 (by decide) ?_
  refine lv_istore (lv' := [(4, .int 0), (0, .ref ax), (1, .int t), (2, .int p0), (3, .int mn)]) hx hb dX4_noneFalls_21 hl (by decide) rfl (fun ls hl => ?_)
  have lp23 : ∀ (n : Nat) (i : Int32) (L2 : Nat → Int32) (G2 : Nat → Int32) (I2 : Nat → Int32), (Int32.toInt mn - Int32.toInt i).toNat < n → lr_X4_noneFalls_23 X R t p0 mn n i L2 G2 I2 = r → lq_X4_noneFalls_23_X X R t p0 mn n i L2 G2 I2 = o_X → lq_X4_noneFalls_23_L2 X R t p0 mn n i L2 G2 I2 = o_L2 → lq_X4_noneFalls_23_G2 X R t p0 mn n i L2 G2 I2 = o_G2 → lq_X4_noneFalls_23_I2 X R t p0 mn n i L2 G2 I2 = o_I2 → ∀ (ls : Array Slot) (H : Heap) (locs : List Loc), lv_has ls 5 [(0, .ref ax), (1, .int t), (2, .int p0), (3, .int mn), (4, .int i)] → va_P D vwCl [xc ax ar al at_ ah X, rc ar av, ac cI av 11 R, lc at_ tg ti L2, gc tg G2, gc ti I2] H → va_D A [xc ax ar al at_ ah X, rc ar av, ac cI av 11 R, lc at_ tg ti L2, gc tg G2, gc ti I2] → va_S A s.heap H locs → W p l e (RM 5 125) s m args below meth c H locs 0 0 Q (F0 m 23 ls []) := by
    clear hl hP hD hS
    intro n
    induction n with
    | zero =>
      intro i L2 G2 I2  hm
      exact absurd hm (Nat.not_lt_zero _)
    | succ n ih =>
      intro i L2 G2 I2  hm hr ho_X ho_L2 ho_G2 ho_I2 ls H locs hl hP hD hS
      refine lv_iload hx hb dX4_noneFalls_23 (lv_at hl 4 rfl) ?_
      refine lv_iload_n hx hb dX4_noneFalls_25 rfl (lv_at hl 3 rfl) ?_
      refine lv_icmp_ge (tgt := 58) hx hb dX4_noneFalls_26 (by decide) (fun c1 => ?_) (fun c1 => ?_)
      · refine lv_aload_n hx hb dX4_noneFalls_58 rfl (lv_at hl 0 rfl) ?_
        refine lv_iconst (v := 1) hx hb dX4_noneFalls_59 (by decide) ?_
        refine kput (ty := .boolean) (ws' := [xc ax ar al at_ ah (x10 (X 4) (X 5) (X 6) (X 7) (X 8) 1), rc ar av, ac cI av 11 R, lc at_ tg ti L2, gc tg G2, gc ti I2]) C hP hD hS igX4 tyX4_ok nmX4 rfl 9 (by decide) wd_1_129 rfl rfl rfl rfl 0 rfl (Nat.le_of_ble_eq_true rfl) rfl dX4_noneFalls_60 (fun H locs hP hD hS => ?_)
        refine lv_aload_n hx hb dX4_noneFalls_63 rfl (lv_at hl 0 rfl) ?_
        refine kget (v := .ref at_) C hP igX4 rfl 2 (by decide) wd_1_122 0 rfl rfl dX4_noneFalls_64 ?_
        refine go_i (ws' := [xc ax ar al at_ ah (x10 (X 4) (X 5) (X 6) (X 7) (X 8) 1), rc ar av, ac cI av 11 R, lc at_ tg ti L2, gc tg G2, gc ti I2]) C (rn_V (As := []) (rest := []) C (c_X2_fallenVials l D cI at_ tg ti L2 G2 I2 H.size) ck_X2_fallenVials wd_2_68 wd_2_69 wd_2_125 ⟨Nat.le_of_ble_eq_true rfl, Nat.le_of_ble_eq_true rfl⟩ ⟨Nat.le_refl _, Nat.le_refl _⟩ (ci := 2) (q0 := 3) rfl rfl hP hD hS [3, 4, 5] rfl rfl hl rfl (Nat.le_of_ble_eq_true rfl) dX4_noneFalls_67) hP hD hS [3, 4, 5] rfl rfl rfl (fun H locs hP hD hS => ?_)
        refine lv_if_ne (tgt := 77) hx hb dX4_noneFalls_70 (by decide) (fun c2 => ?_) (fun c2 => ?_)
        · refine lv_iconst (v := 0) hx hb dX4_noneFalls_77 (by decide) ?_
          exact hend _ _ _ _ _ (by rw [← hr, lr_X4_noneFalls_23, if_pos c1, if_neg c2]) (by rw [← ho_X, lq_X4_noneFalls_23_X, if_pos c1, if_neg c2, ← ho_L2, lq_X4_noneFalls_23_L2, if_pos c1, if_neg c2, ← ho_G2, lq_X4_noneFalls_23_G2, if_pos c1, if_neg c2, ← ho_I2, lq_X4_noneFalls_23_I2, if_pos c1, if_neg c2]; exact hP) hS dX4_noneFalls_78
        · refine lv_iconst (v := 1) hx hb dX4_noneFalls_73 (by decide) ?_
          refine lv_goto (tgt := 78) hx hb dX4_noneFalls_74 (by decide) ?_
          exact hend _ _ _ _ _ (by rw [← hr, lr_X4_noneFalls_23, if_pos c1, if_pos c2]) (by rw [← ho_X, lq_X4_noneFalls_23_X, if_pos c1, if_pos c2, ← ho_L2, lq_X4_noneFalls_23_L2, if_pos c1, if_pos c2, ← ho_G2, lq_X4_noneFalls_23_G2, if_pos c1, if_pos c2, ← ho_I2, lq_X4_noneFalls_23_I2, if_pos c1, if_pos c2]; exact hP) hS dX4_noneFalls_78
      · refine lv_aload_n hx hb dX4_noneFalls_29 rfl (lv_at hl 0 rfl) ?_
        refine kget (v := .ref at_) C hP igX4 rfl 2 (by decide) wd_1_122 0 rfl rfl dX4_noneFalls_30 ?_
        refine go_i (ws' := [xc ax ar al at_ ah X, rc ar av, ac cI av 11 R, lc at_ tg ti L2, gc tg G2, gc ti I2]) C (rn_V (As := []) (rest := []) C (c_X2_vialsWithIce l D cI at_ tg ti L2 G2 I2 H.size) ck_X2_vialsWithIce wd_2_7 wd_2_8 wd_2_50 ⟨Nat.le_of_ble_eq_true rfl, Nat.le_of_ble_eq_true rfl⟩ ⟨Nat.le_refl _, Nat.le_refl _⟩ (ci := 2) (q0 := 3) rfl rfl hP hD hS [3, 4, 5] rfl rfl hl rfl (Nat.le_of_ble_eq_true rfl) dX4_noneFalls_33) hP hD hS [3, 4, 5] rfl rfl rfl (fun H locs hP hD hS => ?_)
        refine lv_if_le (tgt := 58) hx hb dX4_noneFalls_36 (by decide) (fun c3 => ?_) (fun c3 => ?_)
        · refine lv_aload_n hx hb dX4_noneFalls_58 rfl (lv_at hl 0 rfl) ?_
          refine lv_iconst (v := 1) hx hb dX4_noneFalls_59 (by decide) ?_
          refine kput (ty := .boolean) (ws' := [xc ax ar al at_ ah (x10 (X 4) (X 5) (X 6) (X 7) (X 8) 1), rc ar av, ac cI av 11 R, lc at_ tg ti L2, gc tg G2, gc ti I2]) C hP hD hS igX4 tyX4_ok nmX4 rfl 9 (by decide) wd_1_129 rfl rfl rfl rfl 0 rfl (Nat.le_of_ble_eq_true rfl) rfl dX4_noneFalls_60 (fun H locs hP hD hS => ?_)
          refine lv_aload_n hx hb dX4_noneFalls_63 rfl (lv_at hl 0 rfl) ?_
          refine kget (v := .ref at_) C hP igX4 rfl 2 (by decide) wd_1_122 0 rfl rfl dX4_noneFalls_64 ?_
          refine go_i (ws' := [xc ax ar al at_ ah (x10 (X 4) (X 5) (X 6) (X 7) (X 8) 1), rc ar av, ac cI av 11 R, lc at_ tg ti L2, gc tg G2, gc ti I2]) C (rn_V (As := []) (rest := []) C (c_X2_fallenVials l D cI at_ tg ti L2 G2 I2 H.size) ck_X2_fallenVials wd_2_68 wd_2_69 wd_2_125 ⟨Nat.le_of_ble_eq_true rfl, Nat.le_of_ble_eq_true rfl⟩ ⟨Nat.le_refl _, Nat.le_refl _⟩ (ci := 2) (q0 := 3) rfl rfl hP hD hS [3, 4, 5] rfl rfl hl rfl (Nat.le_of_ble_eq_true rfl) dX4_noneFalls_67) hP hD hS [3, 4, 5] rfl rfl rfl (fun H locs hP hD hS => ?_)
          refine lv_if_ne (tgt := 77) hx hb dX4_noneFalls_70 (by decide) (fun c4 => ?_) (fun c4 => ?_)
          · refine lv_iconst (v := 0) hx hb dX4_noneFalls_77 (by decide) ?_
            exact hend _ _ _ _ _ (by rw [← hr, lr_X4_noneFalls_23, if_neg c1, if_pos c3, if_neg c4]) (by rw [← ho_X, lq_X4_noneFalls_23_X, if_neg c1, if_pos c3, if_neg c4, ← ho_L2, lq_X4_noneFalls_23_L2, if_neg c1, if_pos c3, if_neg c4, ← ho_G2, lq_X4_noneFalls_23_G2, if_neg c1, if_pos c3, if_neg c4, ← ho_I2, lq_X4_noneFalls_23_I2, if_neg c1, if_pos c3, if_neg c4]; exact hP) hS dX4_noneFalls_78
          · refine lv_iconst (v := 1) hx hb dX4_noneFalls_73 (by decide) ?_
            refine lv_goto (tgt := 78) hx hb dX4_noneFalls_74 (by decide) ?_
            exact hend _ _ _ _ _ (by rw [← hr, lr_X4_noneFalls_23, if_neg c1, if_pos c3, if_pos c4]) (by rw [← ho_X, lq_X4_noneFalls_23_X, if_neg c1, if_pos c3, if_pos c4, ← ho_L2, lq_X4_noneFalls_23_L2, if_neg c1, if_pos c3, if_pos c4, ← ho_G2, lq_X4_noneFalls_23_G2, if_neg c1, if_pos c3, if_pos c4, ← ho_I2, lq_X4_noneFalls_23_I2, if_neg c1, if_pos c3, if_pos c4]; exact hP) hS dX4_noneFalls_78
        · refine lv_aload_n hx hb dX4_noneFalls_39 rfl (lv_at hl 0 rfl) ?_
          refine kget (v := .ref at_) C hP igX4 rfl 2 (by decide) wd_1_122 0 rfl rfl dX4_noneFalls_40 ?_
          refine lv_aload_n hx hb dX4_noneFalls_43 rfl (lv_at hl 0 rfl) ?_
          refine kget (v := .ref ar) C hP igX4 rfl 0 (by decide) wd_1_120 0 rfl rfl dX4_noneFalls_44 ?_
          refine lv_iload_n hx hb dX4_noneFalls_47 rfl (lv_at hl 1 rfl) ?_
          refine lv_iload_n hx hb dX4_noneFalls_48 rfl (lv_at hl 2 rfl) ?_
          refine go_v (ws' := [xc ax ar al at_ ah X, rc ar av, ac cI av 11 R, lc at_ tg ti (q_X2_passMinute_L L2 G2 I2 R t p0), gc tg (q_X2_passMinute_G L2 G2 R t), gc ti (q_X2_passMinute_I L2 I2 R t)]) C (rn_V (As := [.ref ar, .int t, .int p0]) (rest := []) C (c_X2_passMinute l D cI at_ tg ti L2 G2 I2 ar av R t p0 H.size) ck_X2_passMinute wd_2_23 wd_2_24 wd_2_22 ⟨Nat.le_of_ble_eq_true rfl, Nat.le_of_ble_eq_true rfl⟩ ⟨Nat.le_refl _, Nat.le_refl _⟩ (ci := 2) (q0 := 3) rfl rfl hP hD hS [3, 4, 5, 1, 2] rfl rfl hl rfl (Nat.le_of_ble_eq_true rfl) dX4_noneFalls_49) hP hD hS [3, 4, 5, 1, 2] rfl rfl rfl (fun H locs hP hD hS => ?_)
          refine lv_iinc (v := (i + 1)) (lv' := [(4, .int (i + 1)), (0, .ref ax), (1, .int t), (2, .int p0), (3, .int mn)]) hx hb dX4_noneFalls_52 hl (k := 4) rfl rfl (by decide) rfl (fun ls hl => ?_)
          refine lv_goto (tgt := 23) hx hb dX4_noneFalls_55 (by decide) ?_
          exact ih (i + 1) (q_X2_passMinute_L L2 G2 I2 R t p0) (q_X2_passMinute_G L2 G2 R t) (q_X2_passMinute_I L2 I2 R t)  (cnt2_lt c1 hm) (by rw [← hr, lr_X4_noneFalls_23, if_neg c1, if_neg c3]) (by rw [← ho_X, lq_X4_noneFalls_23_X, if_neg c1, if_neg c3]) (by rw [← ho_L2, lq_X4_noneFalls_23_L2, if_neg c1, if_neg c3]) (by rw [← ho_G2, lq_X4_noneFalls_23_G2, if_neg c1, if_neg c3]) (by rw [← ho_I2, lq_X4_noneFalls_23_I2, if_neg c1, if_neg c3]) ls H locs (lv_sub hl [1, 2, 3, 4, 0] rfl) hP hD hS
  exact lp23 (fu ((Int32.toInt mn).toNat + 1)) 0 (q_X2_start_L p0) (q_X2_start_G R (X 4) (X 5)) (q_X2_start_I R (X 4) (X 5))  (by rw [fu_eq]; have e0 : (0 : Int32).toInt = 0 := rfl; omega) (by rw [← hr, r_X4_noneFalls]) (by rw [← ho_X, q_X4_noneFalls_X]) (by rw [← ho_L2, q_X4_noneFalls_L2]) (by rw [← ho_G2, q_X4_noneFalls_G2]) (by rw [← ho_I2, q_X4_noneFalls_I2]) ls H locs (lv_sub hl [1, 2, 3, 4, 0] rfl) hP hD hS
noncomputable def r_X4_trial (X : Nat → Int32) (R : Nat → Int32) (t : Int32) (p0 : Int32) (mn : Int32) : Int32 := (if (r_X4_within t (-600) 400) = 0 then (-2) else (if (r_X4_isMapped p0 mn) = 0 then (-2) else (if (r_X4_noneFalls X R t p0 mn) = 0 then 0 else 1)))
noncomputable def q_X4_trial_X (X : Nat → Int32) (R : Nat → Int32) (t : Int32) (p0 : Int32) (mn : Int32) : Nat → Int32 := (if (r_X4_within t (-600) 400) = 0 then X else (if (r_X4_isMapped p0 mn) = 0 then X else (if (r_X4_noneFalls X R t p0 mn) = 0 then (q_X4_noneFalls_X X R t p0 mn) else (q_X4_noneFalls_X X R t p0 mn))))
noncomputable def q_X4_trial_L2 (X : Nat → Int32) (R : Nat → Int32) (L2 : Nat → Int32) (t : Int32) (p0 : Int32) (mn : Int32) : Nat → Int32 := (if (r_X4_within t (-600) 400) = 0 then L2 else (if (r_X4_isMapped p0 mn) = 0 then L2 else (if (r_X4_noneFalls X R t p0 mn) = 0 then (q_X4_noneFalls_L2 X R t p0 mn) else (q_X4_noneFalls_L2 X R t p0 mn))))
noncomputable def q_X4_trial_G2 (X : Nat → Int32) (R : Nat → Int32) (G2 : Nat → Int32) (t : Int32) (p0 : Int32) (mn : Int32) : Nat → Int32 := (if (r_X4_within t (-600) 400) = 0 then G2 else (if (r_X4_isMapped p0 mn) = 0 then G2 else (if (r_X4_noneFalls X R t p0 mn) = 0 then (q_X4_noneFalls_G2 X R t p0 mn) else (q_X4_noneFalls_G2 X R t p0 mn))))
noncomputable def q_X4_trial_I2 (X : Nat → Int32) (R : Nat → Int32) (I2 : Nat → Int32) (t : Int32) (p0 : Int32) (mn : Int32) : Nat → Int32 := (if (r_X4_within t (-600) 400) = 0 then I2 else (if (r_X4_isMapped p0 mn) = 0 then I2 else (if (r_X4_noneFalls X R t p0 mn) = 0 then (q_X4_noneFalls_I2 X R t p0 mn) else (q_X4_noneFalls_I2 X R t p0 mn))))
theorem ck_X4_trial : CK yX4_trial cX4_trial 4 (some .int) 3 := ⟨wd_2_117, wd_1_1, by decide, by decide, by decide +kernel⟩
set_option maxHeartbeats 4000000 in
set_option maxRecDepth 100000 in
theorem c_X4_trial (l : Launch) (D : va_G) (cI : ClassId) (ax : Nat) (ar : Nat) (al : Nat) (at_ : Nat) (ah : Nat) (X : Nat → Int32) (av : Nat) (R : Nat → Int32) (tg : Nat) (ti : Nat) (L2 : Nat → Int32) (G2 : Nat → Int32) (I2 : Nat → Int32) (t : Int32) (p0 : Int32) (mn : Int32) : MI l D cI yX4_trial cX4_trial 4 (some .int) 6 149 [.ref ax, .int t, .int p0, .int mn] [xc ax ar al at_ ah X, rc ar av, ac cI av 11 R, lc at_ tg ti L2, gc tg G2, gc ti I2] (r_X4_trial X R t p0 mn) [xc ax ar al at_ ah (q_X4_trial_X X R t p0 mn), rc ar av, ac cI av 11 R, lc at_ tg ti (q_X4_trial_L2 X R L2 t p0 mn), gc tg (q_X4_trial_G2 X R G2 t p0 mn), gc ti (q_X4_trial_I2 X R I2 t p0 mn)] := by
  generalize hr : (r_X4_trial X R t p0 mn) = r
  generalize ho_X : (q_X4_trial_X X R t p0 mn) = o_X
  generalize ho_L2 : (q_X4_trial_L2 X R L2 t p0 mn) = o_L2
  generalize ho_G2 : (q_X4_trial_G2 X R G2 t p0 mn) = o_G2
  generalize ho_I2 : (q_X4_trial_I2 X R I2 t p0 mn) = o_I2
  refine MI.mk (own := RX4) rfl (by decide) rfl (Nat.le_of_ble_eq_true rfl) ?_
  intro p e s m args below meth c A Q C hD hend H locs ls hP hS hl
  have hx := C.1.1
  have hb := C.1.2.1
  have hl : lv_has ls 4 [(0, .ref ax), (1, .int t), (2, .int p0), (3, .int mn)] := hl
  refine lv_iload_n hx hb dX4_trial_0 rfl (lv_at hl 1 rfl) ?_
  refine lv_sipush (v := (-600)) hx hb dX4_trial_1 (by decide) ?_
  refine lv_sipush (v := 400) hx hb dX4_trial_4 (by decide) ?_
  refine go_i (ws' := [xc ax ar al at_ ah X, rc ar av, ac cI av 11 R, lc at_ tg ti L2, gc tg G2, gc ti I2]) C (rn_S (As := [.int t, .int (-600), .int 400]) (rest := []) C (c_X4_within l D cI t (-600) 400 H.size) ck_X4_within wd_1_156 wd_1_155 ⟨Nat.le_of_ble_eq_true rfl, Nat.le_of_ble_eq_true rfl⟩ ⟨Nat.le_refl _, Nat.le_refl _⟩ hP hD hS [] rfl rfl hl rfl (Nat.le_of_ble_eq_true rfl) dX4_trial_7) hP hD hS [] rfl rfl rfl (fun H locs hP hD hS => ?_)
  refine lv_if_eq (tgt := 21) hx hb dX4_trial_10 (by decide) (fun c1 => ?_) (fun c1 => ?_)
  · refine lv_bipush (v := (-2)) hx hb dX4_trial_21 (by decide) ?_
    exact hend _ _ _ _ _ (by rw [← hr, r_X4_trial, if_pos c1]) (by rw [← ho_X, q_X4_trial_X, if_pos c1, ← ho_L2, q_X4_trial_L2, if_pos c1, ← ho_G2, q_X4_trial_G2, if_pos c1, ← ho_I2, q_X4_trial_I2, if_pos c1]; exact hP) hS dX4_trial_23
  · refine lv_iload_n hx hb dX4_trial_13 rfl (lv_at hl 2 rfl) ?_
    refine lv_iload_n hx hb dX4_trial_14 rfl (lv_at hl 3 rfl) ?_
    refine go_i (ws' := [xc ax ar al at_ ah X, rc ar av, ac cI av 11 R, lc at_ tg ti L2, gc tg G2, gc ti I2]) C (rn_S (As := [.int p0, .int mn]) (rest := []) C (c_X4_isMapped l D cI p0 mn H.size) ck_X4_isMapped wd_2_119 wd_2_118 ⟨Nat.le_of_ble_eq_true rfl, Nat.le_of_ble_eq_true rfl⟩ ⟨Nat.le_refl _, Nat.le_refl _⟩ hP hD hS [] rfl rfl hl rfl (Nat.le_of_ble_eq_true rfl) dX4_trial_15) hP hD hS [] rfl rfl rfl (fun H locs hP hD hS => ?_)
    refine lv_if_ne (tgt := 24) hx hb dX4_trial_18 (by decide) (fun c2 => ?_) (fun c2 => ?_)
    · refine lv_aload_n hx hb dX4_trial_24 rfl (lv_at hl 0 rfl) ?_
      refine lv_iload_n hx hb dX4_trial_25 rfl (lv_at hl 1 rfl) ?_
      refine lv_iload_n hx hb dX4_trial_26 rfl (lv_at hl 2 rfl) ?_
      refine lv_iload_n hx hb dX4_trial_27 rfl (lv_at hl 3 rfl) ?_
      refine go_i (ws' := [xc ax ar al at_ ah (q_X4_noneFalls_X X R t p0 mn), rc ar av, ac cI av 11 R, lc at_ tg ti (q_X4_noneFalls_L2 X R t p0 mn), gc tg (q_X4_noneFalls_G2 X R t p0 mn), gc ti (q_X4_noneFalls_I2 X R t p0 mn)]) C (rn_V (As := [.int t, .int p0, .int mn]) (rest := []) C (c_X4_noneFalls l D cI ax ar al at_ ah X av R tg ti L2 G2 I2 t p0 mn H.size) ck_X4_noneFalls wd_2_123 wd_0_4 wd_2_121 ⟨Nat.le_of_ble_eq_true rfl, Nat.le_of_ble_eq_true rfl⟩ ⟨Nat.le_refl _, Nat.le_refl _⟩ (ci := 4) (q0 := 0) rfl rfl hP hD hS [0, 1, 2, 3, 4, 5] rfl rfl hl rfl (Nat.le_of_ble_eq_true rfl) dX4_trial_28) hP hD hS [0, 1, 2, 3, 4, 5] rfl rfl rfl (fun H locs hP hD hS => ?_)
      refine lv_if_eq (tgt := 38) hx hb dX4_trial_31 (by decide) (fun c3 => ?_) (fun c3 => ?_)
      · refine lv_iconst (v := 0) hx hb dX4_trial_38 (by decide) ?_
        exact hend _ _ _ _ _ (by rw [← hr, r_X4_trial, if_neg c1, if_neg c2, if_pos c3]) (by rw [← ho_X, q_X4_trial_X, if_neg c1, if_neg c2, if_pos c3, ← ho_L2, q_X4_trial_L2, if_neg c1, if_neg c2, if_pos c3, ← ho_G2, q_X4_trial_G2, if_neg c1, if_neg c2, if_pos c3, ← ho_I2, q_X4_trial_I2, if_neg c1, if_neg c2, if_pos c3]; exact hP) hS dX4_trial_39
      · refine lv_iconst (v := 1) hx hb dX4_trial_34 (by decide) ?_
        refine lv_goto (tgt := 39) hx hb dX4_trial_35 (by decide) ?_
        exact hend _ _ _ _ _ (by rw [← hr, r_X4_trial, if_neg c1, if_neg c2, if_neg c3]) (by rw [← ho_X, q_X4_trial_X, if_neg c1, if_neg c2, if_neg c3, ← ho_L2, q_X4_trial_L2, if_neg c1, if_neg c2, if_neg c3, ← ho_G2, q_X4_trial_G2, if_neg c1, if_neg c2, if_neg c3, ← ho_I2, q_X4_trial_I2, if_neg c1, if_neg c2, if_neg c3]; exact hP) hS dX4_trial_39
    · refine lv_bipush (v := (-2)) hx hb dX4_trial_21 (by decide) ?_
      exact hend _ _ _ _ _ (by rw [← hr, r_X4_trial, if_neg c1, if_pos c2]) (by rw [← ho_X, q_X4_trial_X, if_neg c1, if_pos c2, ← ho_L2, q_X4_trial_L2, if_neg c1, if_pos c2, ← ho_G2, q_X4_trial_G2, if_neg c1, if_pos c2, ← ho_I2, q_X4_trial_I2, if_neg c1, if_pos c2]; exact hP) hS dX4_trial_23
def r_X4_tried (X : Nat → Int32) (L2 : Nat → Int32) (G2 : Nat → Int32) (I2 : Nat → Int32) (wh : Int32) : Int32 := (if (r_X4_within wh 0 4) = 0 then (-2) else (if (X 9) = 0 then (-3) else (if wh = 0 then (L2 2) else (if wh = 1 then (r_X2_firstVialToFall G2 I2) else (if wh = 2 then (if (mg_X2_firstToFall_9 G2 I2) = 0 then (G2 4) else (I2 4)) else (if wh = 3 then (L2 4) else (r_X2_vialsWithIce G2 I2)))))))
theorem ck_X4_tried : CK yX4_tried cX4_tried 2 (some .int) 1 := ⟨wd_2_129, wd_1_1, by decide, by decide, by decide +kernel⟩
set_option maxHeartbeats 4000000 in
set_option maxRecDepth 100000 in
theorem c_X4_tried (l : Launch) (D : va_G) (cI : ClassId) (ax : Nat) (ar : Nat) (al : Nat) (at_ : Nat) (ah : Nat) (X : Nat → Int32) (tg : Nat) (ti : Nat) (L2 : Nat → Int32) (G2 : Nat → Int32) (I2 : Nat → Int32) (wh : Int32) : MI l D cI yX4_tried cX4_tried 2 (some .int) 2 42 [.ref ax, .int wh] [xc ax ar al at_ ah X, lc at_ tg ti L2, gc tg G2, gc ti I2] (r_X4_tried X L2 G2 I2 wh) [xc ax ar al at_ ah X, lc at_ tg ti L2, gc tg G2, gc ti I2] := by
  generalize hr : (r_X4_tried X L2 G2 I2 wh) = r
  refine MI.mk (own := RX4) rfl (by decide) rfl (Nat.le_of_ble_eq_true rfl) ?_
  intro p e s m args below meth c A Q C hD hend H locs ls hP hS hl
  have hx := C.1.1
  have hb := C.1.2.1
  have hl : lv_has ls 2 [(0, .ref ax), (1, .int wh)] := hl
  refine lv_iload_n hx hb dX4_tried_0 rfl (lv_at hl 1 rfl) ?_
  refine lv_iconst (v := 0) hx hb dX4_tried_1 (by decide) ?_
  refine lv_iconst (v := 4) hx hb dX4_tried_2 (by decide) ?_
  refine go_i (ws' := [xc ax ar al at_ ah X, lc at_ tg ti L2, gc tg G2, gc ti I2]) C (rn_S (As := [.int wh, .int 0, .int 4]) (rest := []) C (c_X4_within l D cI wh 0 4 H.size) ck_X4_within wd_1_156 wd_1_155 ⟨Nat.le_of_ble_eq_true rfl, Nat.le_of_ble_eq_true rfl⟩ ⟨Nat.le_refl _, Nat.le_refl _⟩ hP hD hS [] rfl rfl hl rfl (Nat.le_of_ble_eq_true rfl) dX4_tried_3) hP hD hS [] rfl rfl rfl (fun H locs hP hD hS => ?_)
  refine lv_if_ne (tgt := 12) hx hb dX4_tried_6 (by decide) (fun c1 => ?_) (fun c1 => ?_)
  · refine lv_aload_n hx hb dX4_tried_12 rfl (lv_at hl 0 rfl) ?_
    refine kget (v := .int (X 9)) C hP igX4 rfl 9 (by decide) wd_1_129 0 rfl rfl dX4_tried_13 ?_
    refine lv_if_ne (tgt := 22) hx hb dX4_tried_16 (by decide) (fun c2 => ?_) (fun c2 => ?_)
    · refine lv_iload_n hx hb dX4_tried_22 rfl (lv_at hl 1 rfl) ?_
      by_cases c3 : wh = 0
      · refine lv_tableIn (off := 29) (tgt := 52) hx hb dX4_tried_23 (by rw [c3]; decide) (by rw [c3]; decide) (by rw [c3]; rfl) (by decide) ?_
        refine lv_aload_n hx hb dX4_tried_52 rfl (lv_at hl 0 rfl) ?_
        refine kget (v := .ref at_) C hP igX4 rfl 2 (by decide) wd_1_122 0 rfl rfl dX4_tried_53 ?_
        refine kget (v := .int (L2 2)) C hP igX2 rfl 2 (by decide) wd_1_82 1 rfl rfl dX4_tried_56 ?_
        exact hend _ _ _ _ _ (by rw [← hr, r_X4_tried, if_neg c1, if_neg c2, if_pos c3]) hP hS dX4_tried_59
      · skip
        by_cases c4 : wh = 1
        · refine lv_tableIn (off := 37) (tgt := 60) hx hb dX4_tried_23 (by rw [c4]; decide) (by rw [c4]; decide) (by rw [c4]; rfl) (by decide) ?_
          refine lv_aload_n hx hb dX4_tried_60 rfl (lv_at hl 0 rfl) ?_
          refine kget (v := .ref at_) C hP igX4 rfl 2 (by decide) wd_1_122 0 rfl rfl dX4_tried_61 ?_
          refine go_i (ws' := [xc ax ar al at_ ah X, lc at_ tg ti L2, gc tg G2, gc ti I2]) C (rn_V (As := []) (rest := []) C (c_X2_firstVialToFall l D cI at_ tg ti L2 G2 I2 H.size) ck_X2_firstVialToFall wd_2_107 wd_2_108 wd_2_106 ⟨Nat.le_of_ble_eq_true rfl, Nat.le_of_ble_eq_true rfl⟩ ⟨Nat.le_refl _, Nat.le_refl _⟩ (ci := 2) (q0 := 1) rfl rfl hP hD hS [1, 2, 3] rfl rfl hl rfl (Nat.le_of_ble_eq_true rfl) dX4_tried_64) hP hD hS [1, 2, 3] rfl rfl rfl (fun H locs hP hD hS => ?_)
          exact hend _ _ _ _ _ (by rw [← hr, r_X4_tried, if_neg c1, if_neg c2, if_neg c3, if_pos c4]) hP hS dX4_tried_67
        · skip
          by_cases c5 : wh = 2
          · refine lv_tableIn (off := 45) (tgt := 68) hx hb dX4_tried_23 (by rw [c5]; decide) (by rw [c5]; decide) (by rw [c5]; rfl) (by decide) ?_
            refine lv_aload_n hx hb dX4_tried_68 rfl (lv_at hl 0 rfl) ?_
            refine kget (v := .ref at_) C hP igX4 rfl 2 (by decide) wd_1_122 0 rfl rfl dX4_tried_69 ?_
            refine go_r (ws' := [xc ax ar al at_ ah X, lc at_ tg ti L2, gc tg G2, gc ti I2]) C (rn_V (As := []) (rest := []) C (c_X2_firstToFall l D cI at_ tg ti L2 G2 I2 H.size) ck_X2_firstToFall wd_2_111 wd_2_112 wd_2_130 ⟨Nat.le_of_ble_eq_true rfl, Nat.le_of_ble_eq_true rfl⟩ ⟨Nat.le_refl _, Nat.le_refl _⟩ (ci := 2) (q0 := 1) rfl rfl hP hD hS [1, 2, 3] rfl rfl hl rfl (Nat.le_of_ble_eq_true rfl) dX4_tried_72) hP hD hS [1, 2, 3] rfl rfl rfl (fun H locs hP hD hS => ?_)
            by_cases c6 : (mg_X2_firstToFall_9 G2 I2) = 0
            · rw [show (r_X2_firstToFall tg ti G2 I2) = tg from by rw [r_X2_firstToFall, if_pos c6]]
              refine kget (v := .int (G2 4)) C hP igX0 rfl 4 (by decide) wd_1_55 2 rfl rfl dX4_tried_75 ?_
              exact hend _ _ _ _ _ (by rw [← hr, r_X4_tried, if_neg c1, if_neg c2, if_neg c3, if_neg c4, if_pos c5, if_pos c6]) hP hS dX4_tried_78
            · rw [show (r_X2_firstToFall tg ti G2 I2) = ti from by rw [r_X2_firstToFall, if_neg c6]]
              refine kget (v := .int (I2 4)) C hP igX0 rfl 4 (by decide) wd_1_55 3 rfl rfl dX4_tried_75 ?_
              exact hend _ _ _ _ _ (by rw [← hr, r_X4_tried, if_neg c1, if_neg c2, if_neg c3, if_neg c4, if_pos c5, if_neg c6]) hP hS dX4_tried_78
          · skip
            by_cases c7 : wh = 3
            · refine lv_tableIn (off := 56) (tgt := 79) hx hb dX4_tried_23 (by rw [c7]; decide) (by rw [c7]; decide) (by rw [c7]; rfl) (by decide) ?_
              refine lv_aload_n hx hb dX4_tried_79 rfl (lv_at hl 0 rfl) ?_
              refine kget (v := .ref at_) C hP igX4 rfl 2 (by decide) wd_1_122 0 rfl rfl dX4_tried_80 ?_
              refine kget (v := .int (L2 4)) C hP igX2 rfl 4 (by decide) wd_1_86 1 rfl rfl dX4_tried_83 ?_
              exact hend _ _ _ _ _ (by rw [← hr, r_X4_tried, if_neg c1, if_neg c2, if_neg c3, if_neg c4, if_neg c5, if_pos c7]) hP hS dX4_tried_86
            · skip
              refine lv_tableOut (tgt := 87) hx hb dX4_tried_23 (ts_out (fun k h1 h2 => by rcases (by omega : k = 0 ∨ k = 1 ∨ k = 2 ∨ k = 3) with rfl | rfl | rfl | rfl <;> assumption)) (by decide) ?_
              refine lv_aload_n hx hb dX4_tried_87 rfl (lv_at hl 0 rfl) ?_
              refine kget (v := .ref at_) C hP igX4 rfl 2 (by decide) wd_1_122 0 rfl rfl dX4_tried_88 ?_
              refine go_i (ws' := [xc ax ar al at_ ah X, lc at_ tg ti L2, gc tg G2, gc ti I2]) C (rn_V (As := []) (rest := []) C (c_X2_vialsWithIce l D cI at_ tg ti L2 G2 I2 H.size) ck_X2_vialsWithIce wd_2_7 wd_2_8 wd_2_50 ⟨Nat.le_of_ble_eq_true rfl, Nat.le_of_ble_eq_true rfl⟩ ⟨Nat.le_refl _, Nat.le_refl _⟩ (ci := 2) (q0 := 1) rfl rfl hP hD hS [1, 2, 3] rfl rfl hl rfl (Nat.le_of_ble_eq_true rfl) dX4_tried_91) hP hD hS [1, 2, 3] rfl rfl rfl (fun H locs hP hD hS => ?_)
              exact hend _ _ _ _ _ (by rw [← hr, r_X4_tried, if_neg c1, if_neg c2, if_neg c3, if_neg c4, if_neg c5, if_neg c7]) hP hS dX4_tried_94
    · refine lv_bipush (v := (-3)) hx hb dX4_tried_19 (by decide) ?_
      exact hend _ _ _ _ _ (by rw [← hr, r_X4_tried, if_neg c1, if_pos c2]) hP hS dX4_tried_21
  · refine lv_bipush (v := (-2)) hx hb dX4_tried_9 (by decide) ?_
    exact hend _ _ _ _ _ (by rw [← hr, r_X4_tried, if_pos c1]) hP hS dX4_tried_11
noncomputable def lr_X4_edge_21 (R : Nat → Int32) (p0 : Int32) (mn : Int32) : Nat → (Int32) → (Int32) → (Nat → Int32) → (Nat → Int32) → (Nat → Int32) → (Nat → Int32) → (Int32)
  | 0, _, _, _, _, _, _ => 0
  | n + 1, sf, t, X, L2, G2, I2 => (if 400 < t then sf else (if (r_X4_noneFalls X R t p0 mn) = 0 then sf else (lr_X4_edge_21 R p0 mn n t (t + 50) (q_X4_noneFalls_X X R t p0 mn) (q_X4_noneFalls_L2 X R t p0 mn) (q_X4_noneFalls_G2 X R t p0 mn) (q_X4_noneFalls_I2 X R t p0 mn))))
noncomputable def lq_X4_edge_21_X (R : Nat → Int32) (p0 : Int32) (mn : Int32) : Nat → (Int32) → (Int32) → (Nat → Int32) → (Nat → Int32) → (Nat → Int32) → (Nat → Int32) → (Nat → Int32)
  | 0, _, _, _, _, _, _ => fun _ => 0
  | n + 1, sf, t, X, L2, G2, I2 => (if 400 < t then X else (if (r_X4_noneFalls X R t p0 mn) = 0 then (q_X4_noneFalls_X X R t p0 mn) else (lq_X4_edge_21_X R p0 mn n t (t + 50) (q_X4_noneFalls_X X R t p0 mn) (q_X4_noneFalls_L2 X R t p0 mn) (q_X4_noneFalls_G2 X R t p0 mn) (q_X4_noneFalls_I2 X R t p0 mn))))
noncomputable def lq_X4_edge_21_L2 (R : Nat → Int32) (p0 : Int32) (mn : Int32) : Nat → (Int32) → (Int32) → (Nat → Int32) → (Nat → Int32) → (Nat → Int32) → (Nat → Int32) → (Nat → Int32)
  | 0, _, _, _, _, _, _ => fun _ => 0
  | n + 1, sf, t, X, L2, G2, I2 => (if 400 < t then L2 else (if (r_X4_noneFalls X R t p0 mn) = 0 then (q_X4_noneFalls_L2 X R t p0 mn) else (lq_X4_edge_21_L2 R p0 mn n t (t + 50) (q_X4_noneFalls_X X R t p0 mn) (q_X4_noneFalls_L2 X R t p0 mn) (q_X4_noneFalls_G2 X R t p0 mn) (q_X4_noneFalls_I2 X R t p0 mn))))
noncomputable def lq_X4_edge_21_G2 (R : Nat → Int32) (p0 : Int32) (mn : Int32) : Nat → (Int32) → (Int32) → (Nat → Int32) → (Nat → Int32) → (Nat → Int32) → (Nat → Int32) → (Nat → Int32)
  | 0, _, _, _, _, _, _ => fun _ => 0
  | n + 1, sf, t, X, L2, G2, I2 => (if 400 < t then G2 else (if (r_X4_noneFalls X R t p0 mn) = 0 then (q_X4_noneFalls_G2 X R t p0 mn) else (lq_X4_edge_21_G2 R p0 mn n t (t + 50) (q_X4_noneFalls_X X R t p0 mn) (q_X4_noneFalls_L2 X R t p0 mn) (q_X4_noneFalls_G2 X R t p0 mn) (q_X4_noneFalls_I2 X R t p0 mn))))
noncomputable def lq_X4_edge_21_I2 (R : Nat → Int32) (p0 : Int32) (mn : Int32) : Nat → (Int32) → (Int32) → (Nat → Int32) → (Nat → Int32) → (Nat → Int32) → (Nat → Int32) → (Nat → Int32)
  | 0, _, _, _, _, _, _ => fun _ => 0
  | n + 1, sf, t, X, L2, G2, I2 => (if 400 < t then I2 else (if (r_X4_noneFalls X R t p0 mn) = 0 then (q_X4_noneFalls_I2 X R t p0 mn) else (lq_X4_edge_21_I2 R p0 mn n t (t + 50) (q_X4_noneFalls_X X R t p0 mn) (q_X4_noneFalls_L2 X R t p0 mn) (q_X4_noneFalls_G2 X R t p0 mn) (q_X4_noneFalls_I2 X R t p0 mn))))
noncomputable def r_X4_edge (X : Nat → Int32) (R : Nat → Int32) (L2 : Nat → Int32) (G2 : Nat → Int32) (I2 : Nat → Int32) (p0 : Int32) (mn : Int32) : Int32 := (if (r_X4_isMapped p0 mn) = 0 then (-10002) else (lr_X4_edge_21 R p0 mn (fu 1051) (-10000) (-600) X L2 G2 I2))
noncomputable def q_X4_edge_X (X : Nat → Int32) (R : Nat → Int32) (L2 : Nat → Int32) (G2 : Nat → Int32) (I2 : Nat → Int32) (p0 : Int32) (mn : Int32) : Nat → Int32 := (if (r_X4_isMapped p0 mn) = 0 then X else (lq_X4_edge_21_X R p0 mn (fu 1051) (-10000) (-600) X L2 G2 I2))
noncomputable def q_X4_edge_L2 (X : Nat → Int32) (R : Nat → Int32) (L2 : Nat → Int32) (G2 : Nat → Int32) (I2 : Nat → Int32) (p0 : Int32) (mn : Int32) : Nat → Int32 := (if (r_X4_isMapped p0 mn) = 0 then L2 else (lq_X4_edge_21_L2 R p0 mn (fu 1051) (-10000) (-600) X L2 G2 I2))
noncomputable def q_X4_edge_G2 (X : Nat → Int32) (R : Nat → Int32) (L2 : Nat → Int32) (G2 : Nat → Int32) (I2 : Nat → Int32) (p0 : Int32) (mn : Int32) : Nat → Int32 := (if (r_X4_isMapped p0 mn) = 0 then G2 else (lq_X4_edge_21_G2 R p0 mn (fu 1051) (-10000) (-600) X L2 G2 I2))
noncomputable def q_X4_edge_I2 (X : Nat → Int32) (R : Nat → Int32) (L2 : Nat → Int32) (G2 : Nat → Int32) (I2 : Nat → Int32) (p0 : Int32) (mn : Int32) : Nat → Int32 := (if (r_X4_isMapped p0 mn) = 0 then I2 else (lq_X4_edge_21_I2 R p0 mn (fu 1051) (-10000) (-600) X L2 G2 I2))
theorem ck_X4_edge : CK yX4_edge cX4_edge 5 (some .int) 2 := ⟨wd_2_134, wd_1_1, by decide, by decide, by decide +kernel⟩
set_option maxHeartbeats 4000000 in
set_option maxRecDepth 100000 in
theorem c_X4_edge (l : Launch) (D : va_G) (cI : ClassId) (ax : Nat) (ar : Nat) (al : Nat) (at_ : Nat) (ah : Nat) (X : Nat → Int32) (av : Nat) (R : Nat → Int32) (tg : Nat) (ti : Nat) (L2 : Nat → Int32) (G2 : Nat → Int32) (I2 : Nat → Int32) (p0 : Int32) (mn : Int32) : MI l D cI yX4_edge cX4_edge 5 (some .int) 6 149 [.ref ax, .int p0, .int mn] [xc ax ar al at_ ah X, rc ar av, ac cI av 11 R, lc at_ tg ti L2, gc tg G2, gc ti I2] (r_X4_edge X R L2 G2 I2 p0 mn) [xc ax ar al at_ ah (q_X4_edge_X X R L2 G2 I2 p0 mn), rc ar av, ac cI av 11 R, lc at_ tg ti (q_X4_edge_L2 X R L2 G2 I2 p0 mn), gc tg (q_X4_edge_G2 X R L2 G2 I2 p0 mn), gc ti (q_X4_edge_I2 X R L2 G2 I2 p0 mn)] := by
  generalize hr : (r_X4_edge X R L2 G2 I2 p0 mn) = r
  generalize ho_X : (q_X4_edge_X X R L2 G2 I2 p0 mn) = o_X
  generalize ho_L2 : (q_X4_edge_L2 X R L2 G2 I2 p0 mn) = o_L2
  generalize ho_G2 : (q_X4_edge_G2 X R L2 G2 I2 p0 mn) = o_G2
  generalize ho_I2 : (q_X4_edge_I2 X R L2 G2 I2 p0 mn) = o_I2
  refine MI.mk (own := RX4) rfl (by decide) rfl (Nat.le_of_ble_eq_true rfl) ?_
  intro p e s m args below meth c A Q C hD hend H locs ls hP hS hl
  have hx := C.1.1
  have hb := C.1.2.1
  have hl : lv_has ls 5 [(0, .ref ax), (1, .int p0), (2, .int mn)] := hl
  refine lv_iload_n hx hb dX4_edge_0 rfl (lv_at hl 1 rfl) ?_
  refine lv_iload_n hx hb dX4_edge_1 rfl (lv_at hl 2 rfl) ?_
  refine go_i (ws' := [xc ax ar al at_ ah X, rc ar av, ac cI av 11 R, lc at_ tg ti L2, gc tg G2, gc ti I2]) C (rn_S (As := [.int p0, .int mn]) (rest := []) C (c_X4_isMapped l D cI p0 mn H.size) ck_X4_isMapped wd_2_119 wd_2_118 ⟨Nat.le_of_ble_eq_true rfl, Nat.le_of_ble_eq_true rfl⟩ ⟨Nat.le_refl _, Nat.le_refl _⟩ hP hD hS [] rfl rfl hl rfl (Nat.le_of_ble_eq_true rfl) dX4_edge_2) hP hD hS [] rfl rfl rfl (fun H locs hP hD hS => ?_)
  refine lv_if_ne (tgt := 12) hx hb dX4_edge_5 (by decide) (fun c1 => ?_) (fun c1 => ?_)
  · refine lv_sipush (v := (-10000)) hx hb dX4_edge_12 (by decide) ?_
    refine lv_istore_n (lv' := [(3, .int (-10000)), (0, .ref ax), (1, .int p0), (2, .int mn)]) hx hb dX4_edge_15 rfl hl (by decide) rfl (fun ls hl => ?_)
    refine lv_sipush (v := (-600)) hx hb dX4_edge_16 (by decide) ?_
    refine lv_istore (lv' := [(4, .int (-600)), (3, .int (-10000)), (0, .ref ax), (1, .int p0), (2, .int mn)]) hx hb dX4_edge_19 hl (by decide) rfl (fun ls hl => ?_)
    have lp21 : ∀ (n : Nat) (sf : Int32) (t : Int32) (X : Nat → Int32) (L2 : Nat → Int32) (G2 : Nat → Int32) (I2 : Nat → Int32), (450 - Int32.toInt t).toNat < n → lr_X4_edge_21 R p0 mn n sf t X L2 G2 I2 = r → lq_X4_edge_21_X R p0 mn n sf t X L2 G2 I2 = o_X → lq_X4_edge_21_L2 R p0 mn n sf t X L2 G2 I2 = o_L2 → lq_X4_edge_21_G2 R p0 mn n sf t X L2 G2 I2 = o_G2 → lq_X4_edge_21_I2 R p0 mn n sf t X L2 G2 I2 = o_I2 → ∀ (ls : Array Slot) (H : Heap) (locs : List Loc), lv_has ls 5 [(0, .ref ax), (1, .int p0), (2, .int mn), (3, .int sf), (4, .int t)] → va_P D vwCl [xc ax ar al at_ ah X, rc ar av, ac cI av 11 R, lc at_ tg ti L2, gc tg G2, gc ti I2] H → va_D A [xc ax ar al at_ ah X, rc ar av, ac cI av 11 R, lc at_ tg ti L2, gc tg G2, gc ti I2] → va_S A s.heap H locs → W p l e (RM 6 149) s m args below meth c H locs 0 0 Q (F0 m 21 ls []) := by
      clear hl hP hD hS
      intro n
      induction n with
      | zero =>
        intro sf t X L2 G2 I2  hm
        exact absurd hm (Nat.not_lt_zero _)
      | succ n ih =>
        intro sf t X L2 G2 I2  hm hr ho_X ho_L2 ho_G2 ho_I2 ls H locs hl hP hD hS
        refine lv_iload hx hb dX4_edge_21 (lv_at hl 4 rfl) ?_
        refine lv_sipush (v := 400) hx hb dX4_edge_23 (by decide) ?_
        refine lv_icmp_gt (tgt := 51) hx hb dX4_edge_26 (by decide) (fun c2 => ?_) (fun c2 => ?_)
        · refine lv_iload_n hx hb dX4_edge_51 rfl (lv_at hl 3 rfl) ?_
          exact hend _ _ _ _ _ (by rw [← hr, lr_X4_edge_21, if_pos c2]) (by rw [← ho_X, lq_X4_edge_21_X, if_pos c2, ← ho_L2, lq_X4_edge_21_L2, if_pos c2, ← ho_G2, lq_X4_edge_21_G2, if_pos c2, ← ho_I2, lq_X4_edge_21_I2, if_pos c2]; exact hP) hS dX4_edge_52
        · refine lv_aload_n hx hb dX4_edge_29 rfl (lv_at hl 0 rfl) ?_
          refine lv_iload hx hb dX4_edge_30 (lv_at hl 4 rfl) ?_
          refine lv_iload_n hx hb dX4_edge_32 rfl (lv_at hl 1 rfl) ?_
          refine lv_iload_n hx hb dX4_edge_33 rfl (lv_at hl 2 rfl) ?_
          refine go_i (ws' := [xc ax ar al at_ ah (q_X4_noneFalls_X X R t p0 mn), rc ar av, ac cI av 11 R, lc at_ tg ti (q_X4_noneFalls_L2 X R t p0 mn), gc tg (q_X4_noneFalls_G2 X R t p0 mn), gc ti (q_X4_noneFalls_I2 X R t p0 mn)]) C (rn_V (As := [.int t, .int p0, .int mn]) (rest := []) C (c_X4_noneFalls l D cI ax ar al at_ ah X av R tg ti L2 G2 I2 t p0 mn H.size) ck_X4_noneFalls wd_2_123 wd_0_4 wd_2_121 ⟨Nat.le_of_ble_eq_true rfl, Nat.le_of_ble_eq_true rfl⟩ ⟨Nat.le_refl _, Nat.le_refl _⟩ (ci := 4) (q0 := 0) rfl rfl hP hD hS [0, 1, 2, 3, 4, 5] rfl rfl hl rfl (Nat.le_of_ble_eq_true rfl) dX4_edge_34) hP hD hS [0, 1, 2, 3, 4, 5] rfl rfl rfl (fun H locs hP hD hS => ?_)
          refine lv_if_ne (tgt := 42) hx hb dX4_edge_37 (by decide) (fun c3 => ?_) (fun c3 => ?_)
          · refine lv_iload hx hb dX4_edge_42 (lv_at hl 4 rfl) ?_
            refine lv_istore_n (lv' := [(3, .int t), (0, .ref ax), (1, .int p0), (2, .int mn), (4, .int t)]) hx hb dX4_edge_44 rfl hl (by decide) rfl (fun ls hl => ?_)
            refine lv_iinc (v := (t + 50)) (lv' := [(4, .int (t + 50)), (3, .int t), (0, .ref ax), (1, .int p0), (2, .int mn)]) hx hb dX4_edge_45 hl (k := 4) rfl rfl (by decide) rfl (fun ls hl => ?_)
            refine lv_goto (tgt := 21) hx hb dX4_edge_48 (by decide) ?_
            exact ih t (t + 50) (q_X4_noneFalls_X X R t p0 mn) (q_X4_noneFalls_L2 X R t p0 mn) (q_X4_noneFalls_G2 X R t p0 mn) (q_X4_noneFalls_I2 X R t p0 mn)  (cnt3_lt c2 hm) (by rw [← hr, lr_X4_edge_21, if_neg c2, if_neg c3]) (by rw [← ho_X, lq_X4_edge_21_X, if_neg c2, if_neg c3]) (by rw [← ho_L2, lq_X4_edge_21_L2, if_neg c2, if_neg c3]) (by rw [← ho_G2, lq_X4_edge_21_G2, if_neg c2, if_neg c3]) (by rw [← ho_I2, lq_X4_edge_21_I2, if_neg c2, if_neg c3]) ls H locs (lv_sub hl [2, 3, 4, 1, 0] rfl) hP hD hS
          · refine lv_iload_n hx hb dX4_edge_40 rfl (lv_at hl 3 rfl) ?_
            exact hend _ _ _ _ _ (by rw [← hr, lr_X4_edge_21, if_neg c2, if_pos c3]) (by rw [← ho_X, lq_X4_edge_21_X, if_neg c2, if_pos c3, ← ho_L2, lq_X4_edge_21_L2, if_neg c2, if_pos c3, ← ho_G2, lq_X4_edge_21_G2, if_neg c2, if_pos c3, ← ho_I2, lq_X4_edge_21_I2, if_neg c2, if_pos c3]; exact hP) hS dX4_edge_41
    exact lp21 (fu 1051) (-10000) (-600) X L2 G2 I2  (by rw [fu_eq]; decide) (by rw [← hr, r_X4_edge, if_neg c1]) (by rw [← ho_X, q_X4_edge_X, if_neg c1]) (by rw [← ho_L2, q_X4_edge_L2, if_neg c1]) (by rw [← ho_G2, q_X4_edge_G2, if_neg c1]) (by rw [← ho_I2, q_X4_edge_I2, if_neg c1]) ls H locs (lv_sub hl [2, 3, 4, 1, 0] rfl) hP hD hS
  · refine lv_sipush (v := (-10002)) hx hb dX4_edge_8 (by decide) ?_
    exact hend _ _ _ _ _ (by rw [← hr, r_X4_edge, if_pos c1]) (by rw [← ho_X, q_X4_edge_X, if_pos c1, ← ho_L2, q_X4_edge_L2, if_pos c1, ← ho_G2, q_X4_edge_G2, if_pos c1, ← ho_I2, q_X4_edge_I2, if_pos c1]; exact hP) hS dX4_edge_11
def r_X4_told (X : Nat → Int32) (R : Nat → Int32) (wh : Int32) : Int32 := (if wh < 10 then (if wh = 0 then (X 4) else (if wh = 1 then (X 5) else (if wh = 2 then (r_X4_places X) else (if wh = 3 then (if (X 8) = 0 then 0 else 1) else (-10002))))) else (if (r_X3_has (wh - 10)) = 0 then (if wh = 0 then (X 4) else (if wh = 1 then (X 5) else (if wh = 2 then (r_X4_places X) else (if wh = 3 then (if (X 8) = 0 then 0 else 1) else (-10002))))) else (r_X3_valueOf R (wh - 10))))
theorem ck_X4_told : CK yX4_told cX4_told 2 (some .int) 1 := ⟨wd_2_138, wd_1_1, by decide, by decide, by decide +kernel⟩
set_option maxHeartbeats 4000000 in
set_option maxRecDepth 100000 in
theorem c_X4_told (l : Launch) (D : va_G) (cI : ClassId) (ax : Nat) (ar : Nat) (al : Nat) (at_ : Nat) (ah : Nat) (X : Nat → Int32) (av : Nat) (R : Nat → Int32) (wh : Int32) : MI l D cI yX4_told cX4_told 2 (some .int) 3 63 [.ref ax, .int wh] [xc ax ar al at_ ah X, rc ar av, ac cI av 11 R] (r_X4_told X R wh) [xc ax ar al at_ ah X, rc ar av, ac cI av 11 R] := by
  generalize hr : (r_X4_told X R wh) = r
  refine MI.mk (own := RX4) rfl (by decide) rfl (Nat.le_of_ble_eq_true rfl) ?_
  intro p e s m args below meth c A Q C hD hend H locs ls hP hS hl
  have hx := C.1.1
  have hb := C.1.2.1
  have hl : lv_has ls 2 [(0, .ref ax), (1, .int wh)] := hl
  refine lv_iload_n hx hb dX4_told_0 rfl (lv_at hl 1 rfl) ?_
  refine lv_bipush (v := 10) hx hb dX4_told_1 (by decide) ?_
  refine lv_icmp_lt (tgt := 28) hx hb dX4_told_3 (by decide) (fun c1 => ?_) (fun c1 => ?_)
  · refine lv_iload_n hx hb dX4_told_28 rfl (lv_at hl 1 rfl) ?_
    by_cases c2 : wh = 0
    · refine lv_tableIn (off := 31) (tgt := 60) hx hb dX4_told_29 (by rw [c2]; decide) (by rw [c2]; decide) (by rw [c2]; rfl) (by decide) ?_
      refine lv_aload_n hx hb dX4_told_60 rfl (lv_at hl 0 rfl) ?_
      refine kget (v := .int (X 4)) C hP igX4 rfl 4 (by decide) wd_1_124 0 rfl rfl dX4_told_61 ?_
      exact hend _ _ _ _ _ (by rw [← hr, r_X4_told, if_pos c1, if_pos c2]) hP hS dX4_told_64
    · skip
      by_cases c3 : wh = 1
      · refine lv_tableIn (off := 36) (tgt := 65) hx hb dX4_told_29 (by rw [c3]; decide) (by rw [c3]; decide) (by rw [c3]; rfl) (by decide) ?_
        refine lv_aload_n hx hb dX4_told_65 rfl (lv_at hl 0 rfl) ?_
        refine kget (v := .int (X 5)) C hP igX4 rfl 5 (by decide) wd_1_125 0 rfl rfl dX4_told_66 ?_
        exact hend _ _ _ _ _ (by rw [← hr, r_X4_told, if_pos c1, if_neg c2, if_pos c3]) hP hS dX4_told_69
      · skip
        by_cases c4 : wh = 2
        · refine lv_tableIn (off := 41) (tgt := 70) hx hb dX4_told_29 (by rw [c4]; decide) (by rw [c4]; decide) (by rw [c4]; rfl) (by decide) ?_
          refine lv_aload_n hx hb dX4_told_70 rfl (lv_at hl 0 rfl) ?_
          refine go_i (ws' := [xc ax ar al at_ ah X, rc ar av, ac cI av 11 R]) C (rn_V (As := []) (rest := []) C (c_X4_places l D cI ax ar al at_ ah X H.size) ck_X4_places wd_1_160 wd_0_0 wd_1_158 ⟨Nat.le_of_ble_eq_true rfl, Nat.le_of_ble_eq_true rfl⟩ ⟨Nat.le_refl _, Nat.le_refl _⟩ (ci := 4) (q0 := 0) rfl rfl hP hD hS [0] rfl rfl hl rfl (Nat.le_of_ble_eq_true rfl) dX4_told_71) hP hD hS [0] rfl rfl rfl (fun H locs hP hD hS => ?_)
          exact hend _ _ _ _ _ (by rw [← hr, r_X4_told, if_pos c1, if_neg c2, if_neg c3, if_pos c4]) hP hS dX4_told_74
        · skip
          by_cases c5 : wh = 3
          · refine lv_tableIn (off := 46) (tgt := 75) hx hb dX4_told_29 (by rw [c5]; decide) (by rw [c5]; decide) (by rw [c5]; rfl) (by decide) ?_
            refine lv_aload_n hx hb dX4_told_75 rfl (lv_at hl 0 rfl) ?_
            refine kget (v := .int (X 8)) C hP igX4 rfl 8 (by decide) wd_1_128 0 rfl rfl dX4_told_76 ?_
            refine lv_if_eq (tgt := 86) hx hb dX4_told_79 (by decide) (fun c6 => ?_) (fun c6 => ?_)
            · refine lv_iconst (v := 0) hx hb dX4_told_86 (by decide) ?_
              exact hend _ _ _ _ _ (by rw [← hr, r_X4_told, if_pos c1, if_neg c2, if_neg c3, if_neg c4, if_pos c5, if_pos c6]) hP hS dX4_told_87
            · refine lv_iconst (v := 1) hx hb dX4_told_82 (by decide) ?_
              refine lv_goto (tgt := 87) hx hb dX4_told_83 (by decide) ?_
              exact hend _ _ _ _ _ (by rw [← hr, r_X4_told, if_pos c1, if_neg c2, if_neg c3, if_neg c4, if_pos c5, if_neg c6]) hP hS dX4_told_87
          · skip
            refine lv_tableOut (tgt := 88) hx hb dX4_told_29 (ts_out (fun k h1 h2 => by rcases (by omega : k = 0 ∨ k = 1 ∨ k = 2 ∨ k = 3) with rfl | rfl | rfl | rfl <;> assumption)) (by decide) ?_
            refine lv_sipush (v := (-10002)) hx hb dX4_told_88 (by decide) ?_
            exact hend _ _ _ _ _ (by rw [← hr, r_X4_told, if_pos c1, if_neg c2, if_neg c3, if_neg c4, if_neg c5]) hP hS dX4_told_91
  · refine lv_iload_n hx hb dX4_told_6 rfl (lv_at hl 1 rfl) ?_
    refine lv_bipush (v := 10) hx hb dX4_told_7 (by decide) ?_
    refine lv_isub hx hb dX4_told_9 ?_
    refine go_i (ws' := [xc ax ar al at_ ah X, rc ar av, ac cI av 11 R]) C (rn_S (As := [.int (wh - 10)]) (rest := []) C (c_X3_has l D cI (wh - 10) H.size) ck_X3_has wd_1_167 wd_1_166 ⟨Nat.le_of_ble_eq_true rfl, Nat.le_of_ble_eq_true rfl⟩ ⟨Nat.le_refl _, Nat.le_refl _⟩ hP hD hS [] rfl rfl hl rfl (Nat.le_of_ble_eq_true rfl) dX4_told_10) hP hD hS [] rfl rfl rfl (fun H locs hP hD hS => ?_)
    refine lv_if_eq (tgt := 28) hx hb dX4_told_13 (by decide) (fun c7 => ?_) (fun c7 => ?_)
    · refine lv_iload_n hx hb dX4_told_28 rfl (lv_at hl 1 rfl) ?_
      by_cases c8 : wh = 0
      · refine lv_tableIn (off := 31) (tgt := 60) hx hb dX4_told_29 (by rw [c8]; decide) (by rw [c8]; decide) (by rw [c8]; rfl) (by decide) ?_
        refine lv_aload_n hx hb dX4_told_60 rfl (lv_at hl 0 rfl) ?_
        refine kget (v := .int (X 4)) C hP igX4 rfl 4 (by decide) wd_1_124 0 rfl rfl dX4_told_61 ?_
        exact hend _ _ _ _ _ (by rw [← hr, r_X4_told, if_neg c1, if_pos c7, if_pos c8]) hP hS dX4_told_64
      · skip
        by_cases c9 : wh = 1
        · refine lv_tableIn (off := 36) (tgt := 65) hx hb dX4_told_29 (by rw [c9]; decide) (by rw [c9]; decide) (by rw [c9]; rfl) (by decide) ?_
          refine lv_aload_n hx hb dX4_told_65 rfl (lv_at hl 0 rfl) ?_
          refine kget (v := .int (X 5)) C hP igX4 rfl 5 (by decide) wd_1_125 0 rfl rfl dX4_told_66 ?_
          exact hend _ _ _ _ _ (by rw [← hr, r_X4_told, if_neg c1, if_pos c7, if_neg c8, if_pos c9]) hP hS dX4_told_69
        · skip
          by_cases c10 : wh = 2
          · refine lv_tableIn (off := 41) (tgt := 70) hx hb dX4_told_29 (by rw [c10]; decide) (by rw [c10]; decide) (by rw [c10]; rfl) (by decide) ?_
            refine lv_aload_n hx hb dX4_told_70 rfl (lv_at hl 0 rfl) ?_
            refine go_i (ws' := [xc ax ar al at_ ah X, rc ar av, ac cI av 11 R]) C (rn_V (As := []) (rest := []) C (c_X4_places l D cI ax ar al at_ ah X H.size) ck_X4_places wd_1_160 wd_0_0 wd_1_158 ⟨Nat.le_of_ble_eq_true rfl, Nat.le_of_ble_eq_true rfl⟩ ⟨Nat.le_refl _, Nat.le_refl _⟩ (ci := 4) (q0 := 0) rfl rfl hP hD hS [0] rfl rfl hl rfl (Nat.le_of_ble_eq_true rfl) dX4_told_71) hP hD hS [0] rfl rfl rfl (fun H locs hP hD hS => ?_)
            exact hend _ _ _ _ _ (by rw [← hr, r_X4_told, if_neg c1, if_pos c7, if_neg c8, if_neg c9, if_pos c10]) hP hS dX4_told_74
          · skip
            by_cases c11 : wh = 3
            · refine lv_tableIn (off := 46) (tgt := 75) hx hb dX4_told_29 (by rw [c11]; decide) (by rw [c11]; decide) (by rw [c11]; rfl) (by decide) ?_
              refine lv_aload_n hx hb dX4_told_75 rfl (lv_at hl 0 rfl) ?_
              refine kget (v := .int (X 8)) C hP igX4 rfl 8 (by decide) wd_1_128 0 rfl rfl dX4_told_76 ?_
              refine lv_if_eq (tgt := 86) hx hb dX4_told_79 (by decide) (fun c12 => ?_) (fun c12 => ?_)
              · refine lv_iconst (v := 0) hx hb dX4_told_86 (by decide) ?_
                exact hend _ _ _ _ _ (by rw [← hr, r_X4_told, if_neg c1, if_pos c7, if_neg c8, if_neg c9, if_neg c10, if_pos c11, if_pos c12]) hP hS dX4_told_87
              · refine lv_iconst (v := 1) hx hb dX4_told_82 (by decide) ?_
                refine lv_goto (tgt := 87) hx hb dX4_told_83 (by decide) ?_
                exact hend _ _ _ _ _ (by rw [← hr, r_X4_told, if_neg c1, if_pos c7, if_neg c8, if_neg c9, if_neg c10, if_pos c11, if_neg c12]) hP hS dX4_told_87
            · skip
              refine lv_tableOut (tgt := 88) hx hb dX4_told_29 (ts_out (fun k h1 h2 => by rcases (by omega : k = 0 ∨ k = 1 ∨ k = 2 ∨ k = 3) with rfl | rfl | rfl | rfl <;> assumption)) (by decide) ?_
              refine lv_sipush (v := (-10002)) hx hb dX4_told_88 (by decide) ?_
              exact hend _ _ _ _ _ (by rw [← hr, r_X4_told, if_neg c1, if_pos c7, if_neg c8, if_neg c9, if_neg c10, if_neg c11]) hP hS dX4_told_91
    · refine lv_aload_n hx hb dX4_told_16 rfl (lv_at hl 0 rfl) ?_
      refine kget (v := .ref ar) C hP igX4 rfl 0 (by decide) wd_1_120 0 rfl rfl dX4_told_17 ?_
      refine lv_iload_n hx hb dX4_told_20 rfl (lv_at hl 1 rfl) ?_
      refine lv_bipush (v := 10) hx hb dX4_told_21 (by decide) ?_
      refine lv_isub hx hb dX4_told_23 ?_
      refine go_i (ws' := [xc ax ar al at_ ah X, rc ar av, ac cI av 11 R]) C (rn_V (As := [.int (wh - 10)]) (rest := []) C (c_X3_valueOf l D cI ar av R (wh - 10) H.size) ck_X3_valueOf wd_1_183 wd_1_184 wd_2_139 ⟨Nat.le_of_ble_eq_true rfl, Nat.le_of_ble_eq_true rfl⟩ ⟨Nat.le_refl _, Nat.le_refl _⟩ (ci := 3) (q0 := 1) rfl rfl hP hD hS [1, 2] rfl rfl hl rfl (Nat.le_of_ble_eq_true rfl) dX4_told_24) hP hD hS [1, 2] rfl rfl rfl (fun H locs hP hD hS => ?_)
      exact hend _ _ _ _ _ (by rw [← hr, r_X4_told, if_neg c1, if_neg c7]) hP hS dX4_told_27
end
section
theorem in48 {w i : Int32} (hw : w = 0 ∨ w = 1) (hi : vp_in i 24) : vp_in ((24 * w) + i) 48 := by
  have hi := vp_in_iff.mp hi
  have e24 : (24 : Int32).toInt = 24 := rfl
  have e0 : ((24 : Int32) * 0).toInt = 0 := by decide
  have e1 : ((24 : Int32) * 1).toInt = 24 := by decide
  rcases hw with rfl | rfl
  · exact vp_in_iff.mpr (by rw [addI (by omega) (by omega), e0]; omega)
  · exact vp_in_iff.mpr (by rw [addI (by omega) (by omega), e1]; omega)
theorem in2 {w : Int32} (hw : w = 0 ∨ w = 1) : vp_in w 2 := by
  rcases hw with rfl | rfl
  · exact vp_in_iff.mpr (by decide)
  · exact vp_in_iff.mpr (by decide)
theorem in_to48 {i : Int32} (hi : vp_in i 24) : vp_in i 48 := by
  have hi := vp_in_iff.mp hi
  exact vp_in_iff.mpr (by omega)
theorem inV {v i : Int32} (h0 : 0 ≤ i.toInt) (hv : v.toInt ≤ 24) (c : ¬ v ≤ i) : vp_in i 24 := by
  have c1 : ¬ v.toInt ≤ i.toInt := fun h => c ((tI_le v i).mpr h)
  exact vp_in_iff.mpr (by omega)
theorem inc0 {v i : Int32} (h0 : 0 ≤ i.toInt) (c : ¬ v ≤ i) : 0 ≤ (i + 1).toInt := by
  have c1 : ¬ v.toInt ≤ i.toInt := fun h => c ((tI_le v i).mpr h)
  have e1 : (1 : Int32).toInt = 1 := rfl
  have := rng v
  rw [addI (by omega) (by omega)]; omega
theorem inFill {w i : Int32} (hw : w = 0 ∨ w = 1) (h0 : (24 * w).toInt ≤ i.toInt) (c : ¬ (24 * w) + 24 ≤ i) : vp_in i 48 := by
  have c1 : ¬ ((24 * w) + 24).toInt ≤ i.toInt := fun h => c ((tI_le _ i).mpr h)
  have e0 : ((24 : Int32) * 0).toInt = 0 := by decide
  have e1 : ((24 : Int32) * 1).toInt = 24 := by decide
  have f0 : (((24 : Int32) * 0) + 24).toInt = 24 := by decide
  have f1 : (((24 : Int32) * 1) + 24).toInt = 48 := by decide
  rcases hw with rfl | rfl <;> exact vp_in_iff.mpr (by omega)
theorem incFill {w i : Int32} (hw : w = 0 ∨ w = 1) (h0 : (24 * w).toInt ≤ i.toInt) (c : ¬ (24 * w) + 24 ≤ i) : (24 * w).toInt ≤ (i + 1).toInt := by
  have h := vp_in_iff.mp (inFill hw h0 c)
  have e1 : (1 : Int32).toInt = 1 := rfl
  rw [addI (by omega) (by omega)]; omega
/-- what bars steam is never 0, of the vials from x on -/
def okB (ru ic : Nat → Int32) (w lo : Int32) : Prop := ∀ x : Int32, lo.toInt ≤ x.toInt → x.toInt < 24 → ¬ ((ru 4) + ((ru 5) * ((100 * ((ru 0) - (ic (Int32.toNatClampNeg ((24 * w) + x))))) / (ru 0)))) = 0
theorem okB_next {ru ic : Nat → Int32} {w i v : Int32} (h0 : 0 ≤ i.toInt) (c : ¬ v ≤ i) (h : okB ru ic w i) : okB ru ic w (i + 1) := by
  have c1 : ¬ v.toInt ≤ i.toInt := fun h => c ((tI_le v i).mpr h)
  have e1 : (1 : Int32).toInt = 1 := rfl
  have := rng v
  intro x h1 h2
  rw [addI (by omega) (by omega)] at h1
  exact h x (by omega) h2
theorem idx_ne {w i x : Int32} (hw : w = 0 ∨ w = 1) (hi : vp_in i 24) (hx : vp_in x 24) (h : i.toInt < x.toInt) : ¬ Int32.toNatClampNeg ((24 * w) + x) = Int32.toNatClampNeg ((24 * w) + i) := by
  have a1 := vp_in_iff.mp (in48 hw hi)
  have a2 := vp_in_iff.mp (in48 hw hx)
  have b1 := vp_in_iff.mp hi
  have b2 := vp_in_iff.mp hx
  have e0 : ((24 : Int32) * 0).toInt = 0 := by decide
  have e1 : ((24 : Int32) * 1).toInt = 24 := by decide
  have k1 : Int32.toNatClampNeg ((24 * w) + x) = ((24 * w) + x).toInt.toNat := rfl
  have k2 : Int32.toNatClampNeg ((24 * w) + i) = ((24 * w) + i).toInt.toNat := rfl
  rw [k1, k2]
  rcases hw with rfl | rfl
  · rw [addI (by omega) (by omega), addI (by omega) (by omega)]; omega
  · rw [addI (by omega) (by omega), addI (by omega) (by omega)]; omega
theorem okB_upd {ru ic : Nat → Int32} {w i v z : Int32} (hw : w = 0 ∨ w = 1) (h0 : 0 ≤ i.toInt) (hv : v.toInt ≤ 24) (c : ¬ v ≤ i) (h : okB ru ic w i) : okB ru (upd ic (Int32.toNatClampNeg ((24 * w) + i)) z) w (i + 1) := by
  have hi := inV h0 hv c
  have bi := vp_in_iff.mp hi
  have e1 : (1 : Int32).toInt = 1 := rfl
  intro x h1 h2
  rw [addI (by omega) (by omega)] at h1
  rw [pk_un (idx_ne hw hi (vp_in_iff.mpr (by omega)) (by omega))]
  exact h x (by omega) h2
theorem mid_in {lo hi : Int32} (h : -600 ≤ lo.toInt ∧ lo.toInt ≤ hi.toInt ∧ hi.toInt ≤ 0) (c : ¬ hi ≤ lo) : (lo + (((hi - lo) + 1) / 2)).toInt = lo.toInt + (hi.toInt - lo.toInt + 1) / 2 := by
  have c1 : ¬ hi.toInt ≤ lo.toInt := fun z => c ((tI_le hi lo).mpr z)
  have e1 : (1 : Int32).toInt = 1 := rfl
  have s1 : (hi - lo).toInt = hi.toInt - lo.toInt := subI (by omega) (by omega)
  have s2 : ((hi - lo) + 1).toInt = hi.toInt - lo.toInt + 1 := by rw [addI (by omega) (by omega), s1, e1]
  obtain ⟨j, hj, ej⟩ := nI_of (x := (hi - lo) + 1) (fun z => by have := (tI_lt _ 0).mp z; have e : (0 : Int32).toInt = 0 := rfl; omega)
  have hjj : (j : Int) = hi.toInt - lo.toInt + 1 := by rw [← s2, ej, nI_toInt hj]
  have s3 : (((hi - lo) + 1) / 2).toInt = (hi.toInt - lo.toInt + 1) / 2 := by
    rw [ej, show (2 : Int32) = nI 2 from rfl, pk_div hj (by decide) (by decide), nI_toInt (by omega)]
    omega
  rw [addI (by omega) (by omega), s3]
theorem mid_lo {lo hi : Int32} {n : Nat} (h : -600 ≤ lo.toInt ∧ lo.toInt ≤ hi.toInt ∧ hi.toInt ≤ 0) (c : ¬ hi ≤ lo) (hm : (hi.toInt - lo.toInt).toNat < n + 1) : (hi.toInt - (lo + (((hi - lo) + 1) / 2)).toInt).toNat < n := by
  have c1 : ¬ hi.toInt ≤ lo.toInt := fun z => c ((tI_le hi lo).mpr z)
  rw [mid_in h c]; omega
theorem mid_lo_in {lo hi : Int32} (h : -600 ≤ lo.toInt ∧ lo.toInt ≤ hi.toInt ∧ hi.toInt ≤ 0) (c : ¬ hi ≤ lo) : -600 ≤ (lo + (((hi - lo) + 1) / 2)).toInt ∧ (lo + (((hi - lo) + 1) / 2)).toInt ≤ hi.toInt ∧ hi.toInt ≤ 0 := by
  have c1 : ¬ hi.toInt ≤ lo.toInt := fun z => c ((tI_le hi lo).mpr z)
  rw [mid_in h c]; omega
theorem mid_hi_eq {lo hi : Int32} (h : -600 ≤ lo.toInt ∧ lo.toInt ≤ hi.toInt ∧ hi.toInt ≤ 0) (c : ¬ hi ≤ lo) : ((lo + (((hi - lo) + 1) / 2)) - 1).toInt = lo.toInt + (hi.toInt - lo.toInt + 1) / 2 - 1 := by
  have c1 : ¬ hi.toInt ≤ lo.toInt := fun z => c ((tI_le hi lo).mpr z)
  have e1 : (1 : Int32).toInt = 1 := rfl
  have := mid_in h c
  rw [subI (by omega) (by omega), this, e1]
theorem mid_hi {lo hi : Int32} {n : Nat} (h : -600 ≤ lo.toInt ∧ lo.toInt ≤ hi.toInt ∧ hi.toInt ≤ 0) (c : ¬ hi ≤ lo) (hm : (hi.toInt - lo.toInt).toNat < n + 1) : (((lo + (((hi - lo) + 1) / 2)) - 1).toInt - lo.toInt).toNat < n := by
  have c1 : ¬ hi.toInt ≤ lo.toInt := fun z => c ((tI_le hi lo).mpr z)
  rw [mid_hi_eq h c]; omega
theorem mid_hi_in {lo hi : Int32} (h : -600 ≤ lo.toInt ∧ lo.toInt ≤ hi.toInt ∧ hi.toInt ≤ 0) (c : ¬ hi ≤ lo) : -600 ≤ lo.toInt ∧ lo.toInt ≤ ((lo + (((hi - lo) + 1) / 2)) - 1).toInt ∧ ((lo + (((hi - lo) + 1) / 2)) - 1).toInt ≤ 0 := by
  have c1 : ¬ hi.toInt ≤ lo.toInt := fun z => c ((tI_le hi lo).mpr z)
  rw [mid_hi_eq h c]; omega
def r_X5_in (v : Int64) (a0 : Int64) (b0 : Int64) : Int32 := (if (lg_cmp v a0) < 0 then 0 else (if 0 < (lg_cmp v b0) then 0 else 1))
theorem ck_X5_in : CK yX5_in cX5_in 6 (some .boolean) 3 := ⟨wd_2_217, wd_1_7, by decide, by decide, by decide +kernel⟩
theorem b_X5_in (v : Int64) (a0 : Int64) (b0 : Int64) : (r_X5_in v a0 b0) = 0 ∨ (r_X5_in v a0 b0) = 1 := by
  unfold r_X5_in
  repeat' split
  all_goals first | exact Or.inl rfl | exact Or.inr rfl | exact b_X4_within _ _ _
set_option maxHeartbeats 4000000 in
set_option maxRecDepth 100000 in
theorem c_X5_in (l : Launch) (D : va_G) (cI : ClassId) (v : Int64) (a0 : Int64) (b0 : Int64) : MI l D cI yX5_in cX5_in 6 (some .boolean) 0 0 [.long v, .long a0, .long b0] [] (r_X5_in v a0 b0) [] := by
  have hn : narrow .boolean (.int (r_X5_in v a0 b0)) = .int (r_X5_in v a0 b0) := nb (b_X5_in v a0 b0)
  generalize hr : (r_X5_in v a0 b0) = r at hn ⊢
  refine MI.mk (own := RX5) rfl (by decide) hn (Nat.le_of_ble_eq_true rfl) ?_
  intro p e s m args below meth c A Q C hD hend H locs ls hP hS hl
  have hx := C.1.1
  have hb := C.1.2.1
  have hl : lv_has ls 6 [(0, .long v), (2, .long a0), (4, .long b0)] := hl
  refine lv_lload_n hx hb dX5_in_0 rfl (lv_at hl 0 rfl) ?_
  refine lv_lload_n hx hb dX5_in_1 rfl (lv_at hl 1 rfl) ?_
  refine W.lcmp hx hb dX5_in_2 ?_
  refine lv_if_lt (tgt := 17) hx hb dX5_in_3 (by decide) (fun c1 => ?_) (fun c1 => ?_)
  · refine lv_iconst (v := 0) hx hb dX5_in_17 (by decide) ?_
    exact hend _ _ _ _ _ (by rw [← hr, r_X5_in, if_pos c1]) hP hS dX5_in_18
  · refine lv_lload_n hx hb dX5_in_6 rfl (lv_at hl 0 rfl) ?_
    refine lv_lload hx hb dX5_in_7 (lv_at hl 2 rfl) ?_
    refine W.lcmp hx hb dX5_in_9 ?_
    refine lv_if_gt (tgt := 17) hx hb dX5_in_10 (by decide) (fun c2 => ?_) (fun c2 => ?_)
    · refine lv_iconst (v := 0) hx hb dX5_in_17 (by decide) ?_
      exact hend _ _ _ _ _ (by rw [← hr, r_X5_in, if_neg c1, if_pos c2]) hP hS dX5_in_18
    · refine lv_iconst (v := 1) hx hb dX5_in_13 (by decide) ?_
      refine lv_goto (tgt := 18) hx hb dX5_in_14 (by decide) ?_
      exact hend _ _ _ _ _ (by rw [← hr, r_X5_in, if_neg c1, if_neg c2]) hP hS dX5_in_18
def r_X5_vials (Y : Nat → Int32) : Int32 := ((Y 0) * (Y 1))
theorem ck_X5_vials : CK yX5_vials cX5_vials 1 (some .int) 0 := ⟨wd_2_222, wd_1_7, by decide, by decide, by decide +kernel⟩
set_option maxHeartbeats 4000000 in
set_option maxRecDepth 100000 in
theorem c_X5_vials (l : Launch) (D : va_G) (cI : ClassId) (a : Nat → Nat) (Y : Nat → Int32) : MI l D cI yX5_vials cX5_vials 1 (some .int) 0 0 [.ref (a 0)] [yc a Y] (r_X5_vials Y) [yc a Y] := by
  generalize hr : (r_X5_vials Y) = r
  refine MI.mk (own := RX5) rfl (by decide) rfl (Nat.le_of_ble_eq_true rfl) ?_
  intro p e s m args below meth c A Q C hD hend H locs ls hP hS hl
  have hx := C.1.1
  have hb := C.1.2.1
  have hl : lv_has ls 1 [(0, .ref (a 0))] := hl
  refine lv_aload_n hx hb dX5_vials_0 rfl (lv_at hl 0 rfl) ?_
  refine kget (v := .int (Y 0)) C hP igX5 rfl 0 (by decide) wd_2_146 0 rfl rfl dX5_vials_1 ?_
  refine lv_aload_n hx hb dX5_vials_4 rfl (lv_at hl 0 rfl) ?_
  refine kget (v := .int (Y 1)) C hP igX5 rfl 1 (by decide) wd_2_147 0 rfl rfl dX5_vials_5 ?_
  refine lv_imul hx hb dX5_vials_8 ?_
  exact hend _ _ _ _ _ (by rw [← hr, r_X5_vials]) hP hS dX5_vials_9
def r_X5_leastOf (k : Int32) : Int32 := (if k = 0 then 100 else (if k = 1 then 1 else (if k = 2 then 0 else (if k = 3 then 1 else (if k = 4 then 10 else (if k = 5 then 0 else (if k = 6 then (-600) else 1)))))))
theorem ck_X5_leastOf : CK yX5_leastOf cX5_leastOf 1 (some .int) 1 := ⟨wd_2_230, wd_1_7, by decide, by decide, by decide +kernel⟩
set_option maxHeartbeats 4000000 in
set_option maxRecDepth 100000 in
theorem c_X5_leastOf (l : Launch) (D : va_G) (cI : ClassId) (k : Int32) : MI l D cI yX5_leastOf cX5_leastOf 1 (some .int) 0 0 [.int k] [] (r_X5_leastOf k) [] := by
  generalize hr : (r_X5_leastOf k) = r
  refine MI.mk (own := RX5) rfl (by decide) rfl (Nat.le_of_ble_eq_true rfl) ?_
  intro p e s m args below meth c A Q C hD hend H locs ls hP hS hl
  have hx := C.1.1
  have hb := C.1.2.1
  have hl : lv_has ls 1 [(0, .int k)] := hl
  refine lv_iload_n hx hb dX5_leastOf_0 rfl (lv_at hl 0 rfl) ?_
  by_cases c1 : k = 0
  · refine lv_tableIn (off := 43) (tgt := 44) hx hb dX5_leastOf_1 (by rw [c1]; decide) (by rw [c1]; decide) (by rw [c1]; rfl) (by decide) ?_
    refine lv_bipush (v := 100) hx hb dX5_leastOf_44 (by decide) ?_
    exact hend _ _ _ _ _ (by rw [← hr, r_X5_leastOf, if_pos c1]) hP hS dX5_leastOf_46
  · skip
    by_cases c2 : k = 1
    · refine lv_tableIn (off := 57) (tgt := 58) hx hb dX5_leastOf_1 (by rw [c2]; decide) (by rw [c2]; decide) (by rw [c2]; rfl) (by decide) ?_
      refine lv_iconst (v := 1) hx hb dX5_leastOf_58 (by decide) ?_
      exact hend _ _ _ _ _ (by rw [← hr, r_X5_leastOf, if_neg c1, if_pos c2]) hP hS dX5_leastOf_59
    · skip
      by_cases c3 : k = 2
      · refine lv_tableIn (off := 53) (tgt := 54) hx hb dX5_leastOf_1 (by rw [c3]; decide) (by rw [c3]; decide) (by rw [c3]; rfl) (by decide) ?_
        refine lv_iconst (v := 0) hx hb dX5_leastOf_54 (by decide) ?_
        exact hend _ _ _ _ _ (by rw [← hr, r_X5_leastOf, if_neg c1, if_neg c2, if_pos c3]) hP hS dX5_leastOf_55
      · skip
        by_cases c4 : k = 3
        · refine lv_tableIn (off := 57) (tgt := 58) hx hb dX5_leastOf_1 (by rw [c4]; decide) (by rw [c4]; decide) (by rw [c4]; rfl) (by decide) ?_
          refine lv_iconst (v := 1) hx hb dX5_leastOf_58 (by decide) ?_
          exact hend _ _ _ _ _ (by rw [← hr, r_X5_leastOf, if_neg c1, if_neg c2, if_neg c3, if_pos c4]) hP hS dX5_leastOf_59
        · skip
          by_cases c5 : k = 4
          · refine lv_tableIn (off := 46) (tgt := 47) hx hb dX5_leastOf_1 (by rw [c5]; decide) (by rw [c5]; decide) (by rw [c5]; rfl) (by decide) ?_
            refine lv_bipush (v := 10) hx hb dX5_leastOf_47 (by decide) ?_
            exact hend _ _ _ _ _ (by rw [← hr, r_X5_leastOf, if_neg c1, if_neg c2, if_neg c3, if_neg c4, if_pos c5]) hP hS dX5_leastOf_49
          · skip
            by_cases c6 : k = 5
            · refine lv_tableIn (off := 55) (tgt := 56) hx hb dX5_leastOf_1 (by rw [c6]; decide) (by rw [c6]; decide) (by rw [c6]; rfl) (by decide) ?_
              refine lv_iconst (v := 0) hx hb dX5_leastOf_56 (by decide) ?_
              exact hend _ _ _ _ _ (by rw [← hr, r_X5_leastOf, if_neg c1, if_neg c2, if_neg c3, if_neg c4, if_neg c5, if_pos c6]) hP hS dX5_leastOf_57
            · skip
              by_cases c7 : k = 6
              · refine lv_tableIn (off := 49) (tgt := 50) hx hb dX5_leastOf_1 (by rw [c7]; decide) (by rw [c7]; decide) (by rw [c7]; rfl) (by decide) ?_
                refine lv_sipush (v := (-600)) hx hb dX5_leastOf_50 (by decide) ?_
                exact hend _ _ _ _ _ (by rw [← hr, r_X5_leastOf, if_neg c1, if_neg c2, if_neg c3, if_neg c4, if_neg c5, if_neg c6, if_pos c7]) hP hS dX5_leastOf_53
              · skip
                refine lv_tableOut (tgt := 58) hx hb dX5_leastOf_1 (ts_out (fun k h1 h2 => by rcases (by omega : k = 0 ∨ k = 1 ∨ k = 2 ∨ k = 3 ∨ k = 4 ∨ k = 5 ∨ k = 6) with rfl | rfl | rfl | rfl | rfl | rfl | rfl <;> assumption)) (by decide) ?_
                refine lv_iconst (v := 1) hx hb dX5_leastOf_58 (by decide) ?_
                exact hend _ _ _ _ _ (by rw [← hr, r_X5_leastOf, if_neg c1, if_neg c2, if_neg c3, if_neg c4, if_neg c5, if_neg c6, if_neg c7]) hP hS dX5_leastOf_59
def r_X5_mostOf (k : Int32) : Int32 := (if k = 0 then 5000 else (if k = 1 then 50 else (if k = 2 then 50 else (if k = 3 then 50 else (if k = 4 then 1000 else (if k = 5 then 50 else (if k = 6 then 0 else (if k = 7 then 10000 else (if k = 8 then 100 else (if k = 9 then 500 else (if k = 10 then 1000 else 50)))))))))))
theorem ck_X5_mostOf : CK yX5_mostOf cX5_mostOf 1 (some .int) 1 := ⟨wd_2_233, wd_1_7, by decide, by decide, by decide +kernel⟩
set_option maxHeartbeats 4000000 in
set_option maxRecDepth 100000 in
theorem c_X5_mostOf (l : Launch) (D : va_G) (cI : ClassId) (k : Int32) : MI l D cI yX5_mostOf cX5_mostOf 1 (some .int) 0 0 [.int k] [] (r_X5_mostOf k) [] := by
  generalize hr : (r_X5_mostOf k) = r
  refine MI.mk (own := RX5) rfl (by decide) rfl (Nat.le_of_ble_eq_true rfl) ?_
  intro p e s m args below meth c A Q C hD hend H locs ls hP hS hl
  have hx := C.1.1
  have hb := C.1.2.1
  have hl : lv_has ls 1 [(0, .int k)] := hl
  refine lv_iload_n hx hb dX5_mostOf_0 rfl (lv_at hl 0 rfl) ?_
  by_cases c1 : k = 0
  · refine lv_tableIn (off := 59) (tgt := 60) hx hb dX5_mostOf_1 (by rw [c1]; decide) (by rw [c1]; decide) (by rw [c1]; rfl) (by decide) ?_
    refine lv_sipush (v := 5000) hx hb dX5_mostOf_60 (by decide) ?_
    exact hend _ _ _ _ _ (by rw [← hr, r_X5_mostOf, if_pos c1]) hP hS dX5_mostOf_63
  · skip
    by_cases c2 : k = 1
    · refine lv_tableIn (off := 84) (tgt := 85) hx hb dX5_mostOf_1 (by rw [c2]; decide) (by rw [c2]; decide) (by rw [c2]; rfl) (by decide) ?_
      refine lv_bipush (v := 50) hx hb dX5_mostOf_85 (by decide) ?_
      exact hend _ _ _ _ _ (by rw [← hr, r_X5_mostOf, if_neg c1, if_pos c2]) hP hS dX5_mostOf_87
    · skip
      by_cases c3 : k = 2
      · refine lv_tableIn (off := 84) (tgt := 85) hx hb dX5_mostOf_1 (by rw [c3]; decide) (by rw [c3]; decide) (by rw [c3]; rfl) (by decide) ?_
        refine lv_bipush (v := 50) hx hb dX5_mostOf_85 (by decide) ?_
        exact hend _ _ _ _ _ (by rw [← hr, r_X5_mostOf, if_neg c1, if_neg c2, if_pos c3]) hP hS dX5_mostOf_87
      · skip
        by_cases c4 : k = 3
        · refine lv_tableIn (off := 84) (tgt := 85) hx hb dX5_mostOf_1 (by rw [c4]; decide) (by rw [c4]; decide) (by rw [c4]; rfl) (by decide) ?_
          refine lv_bipush (v := 50) hx hb dX5_mostOf_85 (by decide) ?_
          exact hend _ _ _ _ _ (by rw [← hr, r_X5_mostOf, if_neg c1, if_neg c2, if_neg c3, if_pos c4]) hP hS dX5_mostOf_87
        · skip
          by_cases c5 : k = 4
          · refine lv_tableIn (off := 63) (tgt := 64) hx hb dX5_mostOf_1 (by rw [c5]; decide) (by rw [c5]; decide) (by rw [c5]; rfl) (by decide) ?_
            refine lv_sipush (v := 1000) hx hb dX5_mostOf_64 (by decide) ?_
            exact hend _ _ _ _ _ (by rw [← hr, r_X5_mostOf, if_neg c1, if_neg c2, if_neg c3, if_neg c4, if_pos c5]) hP hS dX5_mostOf_67
          · skip
            by_cases c6 : k = 5
            · refine lv_tableIn (off := 84) (tgt := 85) hx hb dX5_mostOf_1 (by rw [c6]; decide) (by rw [c6]; decide) (by rw [c6]; rfl) (by decide) ?_
              refine lv_bipush (v := 50) hx hb dX5_mostOf_85 (by decide) ?_
              exact hend _ _ _ _ _ (by rw [← hr, r_X5_mostOf, if_neg c1, if_neg c2, if_neg c3, if_neg c4, if_neg c5, if_pos c6]) hP hS dX5_mostOf_87
            · skip
              by_cases c7 : k = 6
              · refine lv_tableIn (off := 67) (tgt := 68) hx hb dX5_mostOf_1 (by rw [c7]; decide) (by rw [c7]; decide) (by rw [c7]; rfl) (by decide) ?_
                refine lv_iconst (v := 0) hx hb dX5_mostOf_68 (by decide) ?_
                exact hend _ _ _ _ _ (by rw [← hr, r_X5_mostOf, if_neg c1, if_neg c2, if_neg c3, if_neg c4, if_neg c5, if_neg c6, if_pos c7]) hP hS dX5_mostOf_69
              · skip
                by_cases c8 : k = 7
                · refine lv_tableIn (off := 69) (tgt := 70) hx hb dX5_mostOf_1 (by rw [c8]; decide) (by rw [c8]; decide) (by rw [c8]; rfl) (by decide) ?_
                  refine lv_sipush (v := 10000) hx hb dX5_mostOf_70 (by decide) ?_
                  exact hend _ _ _ _ _ (by rw [← hr, r_X5_mostOf, if_neg c1, if_neg c2, if_neg c3, if_neg c4, if_neg c5, if_neg c6, if_neg c7, if_pos c8]) hP hS dX5_mostOf_73
                · skip
                  by_cases c9 : k = 8
                  · refine lv_tableIn (off := 73) (tgt := 74) hx hb dX5_mostOf_1 (by rw [c9]; decide) (by rw [c9]; decide) (by rw [c9]; rfl) (by decide) ?_
                    refine lv_bipush (v := 100) hx hb dX5_mostOf_74 (by decide) ?_
                    exact hend _ _ _ _ _ (by rw [← hr, r_X5_mostOf, if_neg c1, if_neg c2, if_neg c3, if_neg c4, if_neg c5, if_neg c6, if_neg c7, if_neg c8, if_pos c9]) hP hS dX5_mostOf_76
                  · skip
                    by_cases c10 : k = 9
                    · refine lv_tableIn (off := 76) (tgt := 77) hx hb dX5_mostOf_1 (by rw [c10]; decide) (by rw [c10]; decide) (by rw [c10]; rfl) (by decide) ?_
                      refine lv_sipush (v := 500) hx hb dX5_mostOf_77 (by decide) ?_
                      exact hend _ _ _ _ _ (by rw [← hr, r_X5_mostOf, if_neg c1, if_neg c2, if_neg c3, if_neg c4, if_neg c5, if_neg c6, if_neg c7, if_neg c8, if_neg c9, if_pos c10]) hP hS dX5_mostOf_80
                    · skip
                      by_cases c11 : k = 10
                      · refine lv_tableIn (off := 80) (tgt := 81) hx hb dX5_mostOf_1 (by rw [c11]; decide) (by rw [c11]; decide) (by rw [c11]; rfl) (by decide) ?_
                        refine lv_sipush (v := 1000) hx hb dX5_mostOf_81 (by decide) ?_
                        exact hend _ _ _ _ _ (by rw [← hr, r_X5_mostOf, if_neg c1, if_neg c2, if_neg c3, if_neg c4, if_neg c5, if_neg c6, if_neg c7, if_neg c8, if_neg c9, if_neg c10, if_pos c11]) hP hS dX5_mostOf_84
                      · skip
                        refine lv_tableOut (tgt := 85) hx hb dX5_mostOf_1 (ts_out (fun k h1 h2 => by rcases (by omega : k = 0 ∨ k = 1 ∨ k = 2 ∨ k = 3 ∨ k = 4 ∨ k = 5 ∨ k = 6 ∨ k = 7 ∨ k = 8 ∨ k = 9 ∨ k = 10) with rfl | rfl | rfl | rfl | rfl | rfl | rfl | rfl | rfl | rfl | rfl <;> assumption)) (by decide) ?_
                        refine lv_bipush (v := 50) hx hb dX5_mostOf_85 (by decide) ?_
                        exact hend _ _ _ _ _ (by rw [← hr, r_X5_mostOf, if_neg c1, if_neg c2, if_neg c3, if_neg c4, if_neg c5, if_neg c6, if_neg c7, if_neg c8, if_neg c9, if_neg c10, if_neg c11]) hP hS dX5_mostOf_87
def r_X5_bend (d : Int32) : Int32 := ((((d + 2) * (d + 2)) * (d + 2)) / 20)
theorem ck_X5_bend : CK yX5_bend cX5_bend 1 (some .int) 1 := ⟨wd_3_4, wd_1_7, by decide, by decide, by decide +kernel⟩
set_option maxHeartbeats 4000000 in
set_option maxRecDepth 100000 in
theorem c_X5_bend (l : Launch) (D : va_G) (cI : ClassId) (d : Int32) : MI l D cI yX5_bend cX5_bend 1 (some .int) 0 0 [.int d] [] (r_X5_bend d) [] := by
  generalize hr : (r_X5_bend d) = r
  refine MI.mk (own := RX5) rfl (by decide) rfl (Nat.le_of_ble_eq_true rfl) ?_
  intro p e s m args below meth c A Q C hD hend H locs ls hP hS hl
  have hx := C.1.1
  have hb := C.1.2.1
  have hl : lv_has ls 1 [(0, .int d)] := hl
  refine lv_iload_n hx hb dX5_bend_0 rfl (lv_at hl 0 rfl) ?_
  refine lv_iconst (v := 2) hx hb dX5_bend_1 (by decide) ?_
  refine lv_iadd hx hb dX5_bend_2 ?_
  refine lv_iload_n hx hb dX5_bend_3 rfl (lv_at hl 0 rfl) ?_
  refine lv_iconst (v := 2) hx hb dX5_bend_4 (by decide) ?_
  refine lv_iadd hx hb dX5_bend_5 ?_
  refine lv_imul hx hb dX5_bend_6 ?_
  refine lv_iload_n hx hb dX5_bend_7 rfl (lv_at hl 0 rfl) ?_
  refine lv_iconst (v := 2) hx hb dX5_bend_8 (by decide) ?_
  refine lv_iadd hx hb dX5_bend_9 ?_
  refine lv_imul hx hb dX5_bend_10 ?_
  refine lv_bipush (v := 20) hx hb dX5_bend_11 (by decide) ?_
  refine lv_idiv hx hb dX5_bend_13 (by decide) ?_
  exact hend _ _ _ _ _ (by rw [← hr, r_X5_bend]) hP hS dX5_bend_14
def r_X5_vapourAt (t : Int32) : Int32 := ((((r_X5_bend ((t - (-600)) / 10)) * (10 - ((t - (-600)) - (t - (-600)) / 10 * 10))) + ((r_X5_bend (((t - (-600)) / 10) + 1)) * ((t - (-600)) - (t - (-600)) / 10 * 10))) / 10)
theorem ck_X5_vapourAt : CK yX5_vapourAt cX5_vapourAt 3 (some .int) 1 := ⟨wd_3_1, wd_1_7, by decide, by decide, by decide +kernel⟩
set_option maxHeartbeats 4000000 in
set_option maxRecDepth 100000 in
theorem c_X5_vapourAt (l : Launch) (D : va_G) (cI : ClassId) (t : Int32) : MI l D cI yX5_vapourAt cX5_vapourAt 3 (some .int) 1 20 [.int t] [] (r_X5_vapourAt t) [] := by
  generalize hr : (r_X5_vapourAt t) = r
  refine MI.mk (own := RX5) rfl (by decide) rfl (Nat.le_of_ble_eq_true rfl) ?_
  intro p e s m args below meth c A Q C hD hend H locs ls hP hS hl
  have hx := C.1.1
  have hb := C.1.2.1
  have hl : lv_has ls 3 [(0, .int t)] := hl
  refine lv_iload_n hx hb dX5_vapourAt_0 rfl (lv_at hl 0 rfl) ?_
  refine lv_sipush (v := (-600)) hx hb dX5_vapourAt_1 (by decide) ?_
  refine lv_isub hx hb dX5_vapourAt_4 ?_
  refine lv_bipush (v := 10) hx hb dX5_vapourAt_5 (by decide) ?_
  refine lv_idiv hx hb dX5_vapourAt_7 (by decide) ?_
  refine lv_istore_n (lv' := [(1, .int ((t - (-600)) / 10)), (0, .int t)]) hx hb dX5_vapourAt_8 rfl hl (by decide) rfl (fun ls hl => ?_)
  refine lv_iload_n hx hb dX5_vapourAt_9 rfl (lv_at hl 1 rfl) ?_
  refine lv_sipush (v := (-600)) hx hb dX5_vapourAt_10 (by decide) ?_
  refine lv_isub hx hb dX5_vapourAt_13 ?_
  refine lv_bipush (v := 10) hx hb dX5_vapourAt_14 (by decide) ?_
  refine lv_irem hx hb dX5_vapourAt_16 (by decide) ?_
  refine lv_istore_n (lv' := [(2, .int ((t - (-600)) - (t - (-600)) / 10 * 10)), (1, .int ((t - (-600)) / 10)), (0, .int t)]) hx hb dX5_vapourAt_17 rfl hl (by decide) rfl (fun ls hl => ?_)
  refine lv_iload_n hx hb dX5_vapourAt_18 rfl (lv_at hl 1 rfl) ?_
  refine go_i (ws' := []) C (rn_S (As := [.int ((t - (-600)) / 10)]) (rest := []) C (c_X5_bend l D cI ((t - (-600)) / 10) H.size) ck_X5_bend wd_3_3 wd_3_2 ⟨Nat.le_of_ble_eq_true rfl, Nat.le_of_ble_eq_true rfl⟩ ⟨Nat.le_refl _, Nat.le_refl _⟩ hP hD hS [] rfl rfl hl rfl (Nat.le_of_ble_eq_true rfl) dX5_vapourAt_19) hP hD hS [] rfl rfl rfl (fun H locs hP hD hS => ?_)
  refine lv_bipush (v := 10) hx hb dX5_vapourAt_22 (by decide) ?_
  refine lv_iload_n hx hb dX5_vapourAt_24 rfl (lv_at hl 0 rfl) ?_
  refine lv_isub hx hb dX5_vapourAt_25 ?_
  refine lv_imul hx hb dX5_vapourAt_26 ?_
  refine lv_iload_n hx hb dX5_vapourAt_27 rfl (lv_at hl 1 rfl) ?_
  refine lv_iconst (v := 1) hx hb dX5_vapourAt_28 (by decide) ?_
  refine lv_iadd hx hb dX5_vapourAt_29 ?_
  refine go_i (ws' := []) C (rn_S (As := [.int (((t - (-600)) / 10) + 1)]) (rest := [.int ((r_X5_bend ((t - (-600)) / 10)) * (10 - ((t - (-600)) - (t - (-600)) / 10 * 10)))]) C (c_X5_bend l D cI (((t - (-600)) / 10) + 1) H.size) ck_X5_bend wd_3_3 wd_3_2 ⟨Nat.le_of_ble_eq_true rfl, Nat.le_of_ble_eq_true rfl⟩ ⟨Nat.le_refl _, Nat.le_refl _⟩ hP hD hS [] rfl rfl hl rfl (Nat.le_of_ble_eq_true rfl) dX5_vapourAt_30) hP hD hS [] rfl rfl rfl (fun H locs hP hD hS => ?_)
  refine lv_iload_n hx hb dX5_vapourAt_33 rfl (lv_at hl 0 rfl) ?_
  refine lv_imul hx hb dX5_vapourAt_34 ?_
  refine lv_iadd hx hb dX5_vapourAt_35 ?_
  refine lv_bipush (v := 10) hx hb dX5_vapourAt_36 (by decide) ?_
  refine lv_idiv hx hb dX5_vapourAt_38 (by decide) ?_
  exact hend _ _ _ _ _ (by rw [← hr, r_X5_vapourAt]) hP hS dX5_vapourAt_39
def r_X5_steamAt (ru : Nat → Int32) (t : Int32) (dd : Int32) (p0 : Int32) : Int32 := (if 0 ≤ ((r_X5_vapourAt t) - p0) then ((((r_X5_vapourAt t) - p0) * 10) / ((ru 4) + ((ru 5) * dd))) else 0)
theorem ck_X5_steamAt : CK yX5_steamAt cX5_steamAt 5 (some .int) 3 := ⟨wd_3_14, wd_1_7, by decide, by decide, by decide +kernel⟩
set_option maxHeartbeats 4000000 in
set_option maxRecDepth 100000 in
theorem c_X5_steamAt (l : Launch) (D : va_G) (cI : ClassId) (a : Nat → Nat) (Y : Nat → Int32) (ru : Nat → Int32) (t : Int32) (dd : Int32) (p0 : Int32) (hbz : ¬ ((ru 4) + ((ru 5) * dd)) = 0) : MI l D cI yX5_steamAt cX5_steamAt 5 (some .int) 2 42 [.ref (a 0), .int t, .int dd, .int p0] [yc a Y, ac cI (a 2) 11 ru] (r_X5_steamAt ru t dd p0) [yc a Y, ac cI (a 2) 11 ru] := by
  generalize hr : (r_X5_steamAt ru t dd p0) = r
  refine MI.mk (own := RX5) rfl (by decide) rfl (Nat.le_of_ble_eq_true rfl) ?_
  intro p e s m args below meth c A Q C hD hend H locs ls hP hS hl
  have hx := C.1.1
  have hb := C.1.2.1
  have hl : lv_has ls 5 [(0, .ref (a 0)), (1, .int t), (2, .int dd), (3, .int p0)] := hl
  refine lv_iload_n hx hb dX5_steamAt_0 rfl (lv_at hl 1 rfl) ?_
  refine go_i (ws' := [yc a Y, ac cI (a 2) 11 ru]) C (rn_S (As := [.int t]) (rest := []) C (c_X5_vapourAt l D cI t H.size) ck_X5_vapourAt wd_3_0 wd_2_239 ⟨Nat.le_of_ble_eq_true rfl, Nat.le_of_ble_eq_true rfl⟩ ⟨Nat.le_refl _, Nat.le_refl _⟩ hP hD hS [] rfl rfl hl rfl (Nat.le_of_ble_eq_true rfl) dX5_steamAt_1) hP hD hS [] rfl rfl rfl (fun H locs hP hD hS => ?_)
  refine lv_iload_n hx hb dX5_steamAt_4 rfl (lv_at hl 3 rfl) ?_
  refine lv_isub hx hb dX5_steamAt_5 ?_
  refine lv_istore (lv' := [(4, .int ((r_X5_vapourAt t) - p0)), (0, .ref (a 0)), (1, .int t), (2, .int dd), (3, .int p0)]) hx hb dX5_steamAt_6 hl (by decide) rfl (fun ls hl => ?_)
  refine lv_iload hx hb dX5_steamAt_8 (lv_at hl 0 rfl) ?_
  refine lv_if_ge (tgt := 17) hx hb dX5_steamAt_10 (by decide) (fun c1 => ?_) (fun c1 => ?_)
  · refine lv_iload hx hb dX5_steamAt_17 (lv_at hl 0 rfl) ?_
    refine lv_bipush (v := 10) hx hb dX5_steamAt_19 (by decide) ?_
    refine lv_imul hx hb dX5_steamAt_21 ?_
    refine lv_aload_n hx hb dX5_steamAt_22 rfl (lv_at hl 1 rfl) ?_
    refine kget (v := .ref (a 2)) C hP igX5 rfl 2 (by decide) wd_2_148 0 rfl rfl dX5_steamAt_23 ?_
    refine lv_iconst (v := 4) hx hb dX5_steamAt_26 (by decide) ?_
    refine kald C hP 1 rfl (vp_in_iff.mpr (by decide)) (k := 4) rfl dX5_steamAt_27 ?_
    refine lv_aload_n hx hb dX5_steamAt_28 rfl (lv_at hl 1 rfl) ?_
    refine kget (v := .ref (a 2)) C hP igX5 rfl 2 (by decide) wd_2_148 0 rfl rfl dX5_steamAt_29 ?_
    refine lv_iconst (v := 5) hx hb dX5_steamAt_32 (by decide) ?_
    refine kald C hP 1 rfl (vp_in_iff.mpr (by decide)) (k := 5) rfl dX5_steamAt_33 ?_
    refine lv_iload_n hx hb dX5_steamAt_34 rfl (lv_at hl 3 rfl) ?_
    refine lv_imul hx hb dX5_steamAt_35 ?_
    refine lv_iadd hx hb dX5_steamAt_36 ?_
    refine lv_idiv hx hb dX5_steamAt_37 hbz ?_
    exact hend _ _ _ _ _ (by rw [← hr, r_X5_steamAt, if_pos c1]) hP hS dX5_steamAt_38
  · refine lv_iconst (v := 0) hx hb dX5_steamAt_13 (by decide) ?_
    refine lv_goto (tgt := 38) hx hb dX5_steamAt_14 (by decide) ?_
    exact hend _ _ _ _ _ (by rw [← hr, r_X5_steamAt, if_neg c1]) hP hS dX5_steamAt_38
def r_X5_isRim (Y : Nat → Int32) (k : Int32) : Int32 := (if (k / (Y 1)) = 0 then 1 else (if (k - k / (Y 1) * (Y 1)) = 0 then 1 else (if (k / (Y 1)) = ((Y 0) - 1) then 1 else (if (k - k / (Y 1) * (Y 1)) = ((Y 1) - 1) then 1 else 0))))
theorem ck_X5_isRim : CK yX5_isRim cX5_isRim 4 (some .boolean) 1 := ⟨wd_3_22, wd_1_7, by decide, by decide, by decide +kernel⟩
theorem b_X5_isRim (Y : Nat → Int32) (k : Int32) : (r_X5_isRim Y k) = 0 ∨ (r_X5_isRim Y k) = 1 := by
  unfold r_X5_isRim
  repeat' split
  all_goals first | exact Or.inl rfl | exact Or.inr rfl | exact b_X4_within _ _ _
set_option maxHeartbeats 4000000 in
set_option maxRecDepth 100000 in
theorem c_X5_isRim (l : Launch) (D : va_G) (cI : ClassId) (a : Nat → Nat) (Y : Nat → Int32) (k : Int32) (hc : ¬ (Y 1) = 0) : MI l D cI yX5_isRim cX5_isRim 4 (some .boolean) 0 0 [.ref (a 0), .int k] [yc a Y] (r_X5_isRim Y k) [yc a Y] := by
  have hn : narrow .boolean (.int (r_X5_isRim Y k)) = .int (r_X5_isRim Y k) := nb (b_X5_isRim Y k)
  generalize hr : (r_X5_isRim Y k) = r at hn ⊢
  refine MI.mk (own := RX5) rfl (by decide) hn (Nat.le_of_ble_eq_true rfl) ?_
  intro p e s m args below meth c A Q C hD hend H locs ls hP hS hl
  have hx := C.1.1
  have hb := C.1.2.1
  have hl : lv_has ls 4 [(0, .ref (a 0)), (1, .int k)] := hl
  refine lv_iload_n hx hb dX5_isRim_0 rfl (lv_at hl 1 rfl) ?_
  refine lv_aload_n hx hb dX5_isRim_1 rfl (lv_at hl 0 rfl) ?_
  refine kget (v := .int (Y 1)) C hP igX5 rfl 1 (by decide) wd_2_147 0 rfl rfl dX5_isRim_2 ?_
  refine lv_idiv hx hb dX5_isRim_5 hc ?_
  refine lv_istore_n (lv' := [(2, .int (k / (Y 1))), (0, .ref (a 0)), (1, .int k)]) hx hb dX5_isRim_6 rfl hl (by decide) rfl (fun ls hl => ?_)
  refine lv_iload_n hx hb dX5_isRim_7 rfl (lv_at hl 2 rfl) ?_
  refine lv_aload_n hx hb dX5_isRim_8 rfl (lv_at hl 1 rfl) ?_
  refine kget (v := .int (Y 1)) C hP igX5 rfl 1 (by decide) wd_2_147 0 rfl rfl dX5_isRim_9 ?_
  refine lv_irem hx hb dX5_isRim_12 hc ?_
  refine lv_istore_n (lv' := [(3, .int (k - k / (Y 1) * (Y 1))), (2, .int (k / (Y 1))), (0, .ref (a 0)), (1, .int k)]) hx hb dX5_isRim_13 rfl hl (by decide) rfl (fun ls hl => ?_)
  refine lv_iload_n hx hb dX5_isRim_14 rfl (lv_at hl 1 rfl) ?_
  refine lv_if_eq (tgt := 42) hx hb dX5_isRim_15 (by decide) (fun c1 => ?_) (fun c1 => ?_)
  · refine lv_iconst (v := 1) hx hb dX5_isRim_42 (by decide) ?_
    refine lv_goto (tgt := 47) hx hb dX5_isRim_43 (by decide) ?_
    exact hend _ _ _ _ _ (by rw [← hr, r_X5_isRim, if_pos c1]) hP hS dX5_isRim_47
  · refine lv_iload_n hx hb dX5_isRim_18 rfl (lv_at hl 0 rfl) ?_
    refine lv_if_eq (tgt := 42) hx hb dX5_isRim_19 (by decide) (fun c2 => ?_) (fun c2 => ?_)
    · refine lv_iconst (v := 1) hx hb dX5_isRim_42 (by decide) ?_
      refine lv_goto (tgt := 47) hx hb dX5_isRim_43 (by decide) ?_
      exact hend _ _ _ _ _ (by rw [← hr, r_X5_isRim, if_neg c1, if_pos c2]) hP hS dX5_isRim_47
    · refine lv_iload_n hx hb dX5_isRim_22 rfl (lv_at hl 1 rfl) ?_
      refine lv_aload_n hx hb dX5_isRim_23 rfl (lv_at hl 2 rfl) ?_
      refine kget (v := .int (Y 0)) C hP igX5 rfl 0 (by decide) wd_2_146 0 rfl rfl dX5_isRim_24 ?_
      refine lv_iconst (v := 1) hx hb dX5_isRim_27 (by decide) ?_
      refine lv_isub hx hb dX5_isRim_28 ?_
      refine lv_icmp_eq (tgt := 42) hx hb dX5_isRim_29 (by decide) (fun c3 => ?_) (fun c3 => ?_)
      · refine lv_iconst (v := 1) hx hb dX5_isRim_42 (by decide) ?_
        refine lv_goto (tgt := 47) hx hb dX5_isRim_43 (by decide) ?_
        exact hend _ _ _ _ _ (by rw [← hr, r_X5_isRim, if_neg c1, if_neg c2, if_pos c3]) hP hS dX5_isRim_47
      · refine lv_iload_n hx hb dX5_isRim_32 rfl (lv_at hl 0 rfl) ?_
        refine lv_aload_n hx hb dX5_isRim_33 rfl (lv_at hl 2 rfl) ?_
        refine kget (v := .int (Y 1)) C hP igX5 rfl 1 (by decide) wd_2_147 0 rfl rfl dX5_isRim_34 ?_
        refine lv_iconst (v := 1) hx hb dX5_isRim_37 (by decide) ?_
        refine lv_isub hx hb dX5_isRim_38 ?_
        refine lv_icmp_ne (tgt := 46) hx hb dX5_isRim_39 (by decide) (fun c4 => ?_) (fun c4 => ?_)
        · refine lv_iconst (v := 0) hx hb dX5_isRim_46 (by decide) ?_
          exact hend _ _ _ _ _ (by rw [← hr, r_X5_isRim, if_neg c1, if_neg c2, if_neg c3, if_neg c4]) hP hS dX5_isRim_47
        · refine lv_iconst (v := 1) hx hb dX5_isRim_42 (by decide) ?_
          refine lv_goto (tgt := 47) hx hb dX5_isRim_43 (by decide) ?_
          exact hend _ _ _ _ _ (by rw [← hr, r_X5_isRim, if_neg c1, if_neg c2, if_neg c3, if_pos c4]) hP hS dX5_isRim_47
def mg_X5_holds_41 (Y : Nat → Int32) (ru : Nat → Int32) (k : Int32) : Int32 := (if (r_X5_isRim Y k) = 0 then 0 else (ru 2))
def r_X5_holds (Y : Nat → Int32) (ru : Nat → Int32) (ic : Nat → Int32) (pr : Nat → Int32) (w : Int32) (k : Int32) (t : Int32) (sh : Int32) : Int32 := (if ((((ru 1) + (mg_X5_holds_41 Y ru k)) * (sh - t)) / 10) < ((r_X5_steamAt ru t ((100 * ((ru 0) - (ic (Int32.toNatClampNeg ((24 * w) + k))))) / (ru 0)) (pr (Int32.toNatClampNeg w))) * (ru 3)) then 0 else 1)
theorem ck_X5_holds : CK yX5_holds cX5_holds 7 (some .boolean) 4 := ⟨wd_3_57, wd_1_7, by decide, by decide, by decide +kernel⟩
theorem b_X5_holds (Y : Nat → Int32) (ru : Nat → Int32) (ic : Nat → Int32) (pr : Nat → Int32) (w : Int32) (k : Int32) (t : Int32) (sh : Int32) : (r_X5_holds Y ru ic pr w k t sh) = 0 ∨ (r_X5_holds Y ru ic pr w k t sh) = 1 := by
  unfold r_X5_holds
  repeat' split
  all_goals first | exact Or.inl rfl | exact Or.inr rfl | exact b_X4_within _ _ _
set_option maxHeartbeats 4000000 in
set_option maxRecDepth 100000 in
theorem c_X5_holds (l : Launch) (D : va_G) (cI : ClassId) (a : Nat → Nat) (Y : Nat → Int32) (ru : Nat → Int32) (ic : Nat → Int32) (pr : Nat → Int32) (w : Int32) (k : Int32) (t : Int32) (sh : Int32) (hw : w = 0 ∨ w = 1) (hk : vp_in ((24 * w) + k) 48) (hf : ¬ (ru 0) = 0) (hc : ¬ (Y 1) = 0) (hbz : ¬ ((ru 4) + ((ru 5) * ((100 * ((ru 0) - (ic (Int32.toNatClampNeg ((24 * w) + k))))) / (ru 0)))) = 0) : MI l D cI yX5_holds cX5_holds 7 (some .boolean) 3 66 [.ref (a 0), .int w, .int k, .int t, .int sh] [yc a Y, ac cI (a 2) 11 ru, ac cI (a 6) 48 ic, ac cI (a 12) 2 pr] (r_X5_holds Y ru ic pr w k t sh) [yc a Y, ac cI (a 2) 11 ru, ac cI (a 6) 48 ic, ac cI (a 12) 2 pr] := by
  have hn : narrow .boolean (.int (r_X5_holds Y ru ic pr w k t sh)) = .int (r_X5_holds Y ru ic pr w k t sh) := nb (b_X5_holds Y ru ic pr w k t sh)
  generalize hr : (r_X5_holds Y ru ic pr w k t sh) = r at hn ⊢
  refine MI.mk (own := RX5) rfl (by decide) hn (Nat.le_of_ble_eq_true rfl) ?_
  intro p e s m args below meth c A Q C hD hend H locs ls hP hS hl
  have hx := C.1.1
  have hb := C.1.2.1
  have hl : lv_has ls 7 [(0, .ref (a 0)), (1, .int w), (2, .int k), (3, .int t), (4, .int sh)] := hl
  refine lv_bipush (v := 100) hx hb dX5_holds_0 (by decide) ?_
  refine lv_aload_n hx hb dX5_holds_2 rfl (lv_at hl 0 rfl) ?_
  refine kget (v := .ref (a 2)) C hP igX5 rfl 2 (by decide) wd_2_148 0 rfl rfl dX5_holds_3 ?_
  refine lv_iconst (v := 0) hx hb dX5_holds_6 (by decide) ?_
  refine kald C hP 1 rfl (vp_in_iff.mpr (by decide)) (k := 0) rfl dX5_holds_7 ?_
  refine lv_aload_n hx hb dX5_holds_8 rfl (lv_at hl 0 rfl) ?_
  refine kget (v := .ref (a 6)) C hP igX5 rfl 6 (by decide) wd_2_152 0 rfl rfl dX5_holds_9 ?_
  refine lv_bipush (v := 24) hx hb dX5_holds_12 (by decide) ?_
  refine lv_iload_n hx hb dX5_holds_14 rfl (lv_at hl 1 rfl) ?_
  refine lv_imul hx hb dX5_holds_15 ?_
  refine lv_iload_n hx hb dX5_holds_16 rfl (lv_at hl 2 rfl) ?_
  refine lv_iadd hx hb dX5_holds_17 ?_
  refine kald C hP 2 rfl hk (k := (Int32.toNatClampNeg ((24 * w) + k))) rfl dX5_holds_18 ?_
  refine lv_isub hx hb dX5_holds_19 ?_
  refine lv_imul hx hb dX5_holds_20 ?_
  refine lv_aload_n hx hb dX5_holds_21 rfl (lv_at hl 0 rfl) ?_
  refine kget (v := .ref (a 2)) C hP igX5 rfl 2 (by decide) wd_2_148 0 rfl rfl dX5_holds_22 ?_
  refine lv_iconst (v := 0) hx hb dX5_holds_25 (by decide) ?_
  refine kald C hP 1 rfl (vp_in_iff.mpr (by decide)) (k := 0) rfl dX5_holds_26 ?_
  refine lv_idiv hx hb dX5_holds_27 hf ?_
  refine lv_istore (lv' := [(5, .int ((100 * ((ru 0) - (ic (Int32.toNatClampNeg ((24 * w) + k))))) / (ru 0))), (0, .ref (a 0)), (1, .int w), (2, .int k), (3, .int t), (4, .int sh)]) hx hb dX5_holds_28 hl (by decide) rfl (fun ls hl => ?_)
  refine lv_aload_n hx hb dX5_holds_30 rfl (lv_at hl 1 rfl) ?_
  refine kget (v := .ref (a 2)) C hP igX5 rfl 2 (by decide) wd_2_148 0 rfl rfl dX5_holds_31 ?_
  refine lv_iconst (v := 1) hx hb dX5_holds_34 (by decide) ?_
  refine kald C hP 1 rfl (vp_in_iff.mpr (by decide)) (k := 1) rfl dX5_holds_35 ?_
  refine lv_aload_n hx hb dX5_holds_36 rfl (lv_at hl 1 rfl) ?_
  refine lv_iload_n hx hb dX5_holds_37 rfl (lv_at hl 3 rfl) ?_
  refine go_i (ws' := [yc a Y, ac cI (a 2) 11 ru, ac cI (a 6) 48 ic, ac cI (a 12) 2 pr]) C (rn_V (As := [.int k]) (rest := [.int (ru 1)]) C (c_X5_isRim l D cI a Y k hc H.size) ck_X5_isRim wd_3_21 wd_0_7 wd_3_19 ⟨Nat.le_of_ble_eq_true rfl, Nat.le_of_ble_eq_true rfl⟩ ⟨Nat.le_refl _, Nat.le_refl _⟩ (ci := 5) (q0 := 0) rfl rfl hP hD hS [0] rfl rfl hl rfl (Nat.le_of_ble_eq_true rfl) dX5_holds_38) hP hD hS [0] rfl rfl rfl (fun H locs hP hD hS => ?_)
  have j54 : ∀ (ls : Array Slot) (H : Heap) (locs : List Loc), lv_has ls 7 [(0, .ref (a 0)), (1, .int w), (2, .int k), (3, .int t), (4, .int sh), (5, .int ((100 * ((ru 0) - (ic (Int32.toNatClampNeg ((24 * w) + k))))) / (ru 0)))] → va_P D vwCl [yc a Y, ac cI (a 2) 11 ru, ac cI (a 6) 48 ic, ac cI (a 12) 2 pr] H → va_D A [yc a Y, ac cI (a 2) 11 ru, ac cI (a 6) 48 ic, ac cI (a 12) 2 pr] → va_S A s.heap H locs → W p l e (RM 3 66) s m args below meth c H locs 0 0 Q (F0 m 54 ls [.int (mg_X5_holds_41 Y ru k), .int (ru 1)]) := by
    intro ls H locs hl hP hD hS
    refine lv_iadd hx hb dX5_holds_54 ?_
    refine lv_istore (lv' := [(6, .int ((ru 1) + (mg_X5_holds_41 Y ru k))), (0, .ref (a 0)), (1, .int w), (2, .int k), (3, .int t), (4, .int sh), (5, .int ((100 * ((ru 0) - (ic (Int32.toNatClampNeg ((24 * w) + k))))) / (ru 0)))]) hx hb dX5_holds_55 hl (by decide) rfl (fun ls hl => ?_)
    refine lv_aload_n hx hb dX5_holds_57 rfl (lv_at hl 1 rfl) ?_
    refine lv_iload_n hx hb dX5_holds_58 rfl (lv_at hl 4 rfl) ?_
    refine lv_iload hx hb dX5_holds_59 (lv_at hl 6 rfl) ?_
    refine lv_aload_n hx hb dX5_holds_61 rfl (lv_at hl 1 rfl) ?_
    refine kget (v := .ref (a 12)) C hP igX5 rfl 12 (by decide) wd_2_158 0 rfl rfl dX5_holds_62 ?_
    refine lv_iload_n hx hb dX5_holds_65 rfl (lv_at hl 2 rfl) ?_
    refine kald C hP 3 rfl (in2 hw) (k := (Int32.toNatClampNeg w)) rfl dX5_holds_66 ?_
    refine go_i (ws' := [yc a Y, ac cI (a 2) 11 ru, ac cI (a 6) 48 ic, ac cI (a 12) 2 pr]) C (rn_V (As := [.int t, .int ((100 * ((ru 0) - (ic (Int32.toNatClampNeg ((24 * w) + k))))) / (ru 0)), .int (pr (Int32.toNatClampNeg w))]) (rest := []) C (c_X5_steamAt l D cI a Y ru t ((100 * ((ru 0) - (ic (Int32.toNatClampNeg ((24 * w) + k))))) / (ru 0)) (pr (Int32.toNatClampNeg w)) hbz H.size) ck_X5_steamAt wd_3_13 wd_0_6 wd_3_11 ⟨Nat.le_of_ble_eq_true rfl, Nat.le_of_ble_eq_true rfl⟩ ⟨Nat.le_refl _, Nat.le_refl _⟩ (ci := 5) (q0 := 0) rfl rfl hP hD hS [0, 1] rfl rfl hl rfl (Nat.le_of_ble_eq_true rfl) dX5_holds_67) hP hD hS [0, 1] rfl rfl rfl (fun H locs hP hD hS => ?_)
    refine lv_aload_n hx hb dX5_holds_70 rfl (lv_at hl 1 rfl) ?_
    refine kget (v := .ref (a 2)) C hP igX5 rfl 2 (by decide) wd_2_148 0 rfl rfl dX5_holds_71 ?_
    refine lv_iconst (v := 3) hx hb dX5_holds_74 (by decide) ?_
    refine kald C hP 1 rfl (vp_in_iff.mpr (by decide)) (k := 3) rfl dX5_holds_75 ?_
    refine lv_imul hx hb dX5_holds_76 ?_
    refine lv_iload hx hb dX5_holds_77 (lv_at hl 0 rfl) ?_
    refine lv_iload hx hb dX5_holds_79 (lv_at hl 5 rfl) ?_
    refine lv_iload_n hx hb dX5_holds_81 rfl (lv_at hl 4 rfl) ?_
    refine lv_isub hx hb dX5_holds_82 ?_
    refine lv_imul hx hb dX5_holds_83 ?_
    refine lv_bipush (v := 10) hx hb dX5_holds_84 (by decide) ?_
    refine lv_idiv hx hb dX5_holds_86 (by decide) ?_
    refine lv_icmp_gt (tgt := 94) hx hb dX5_holds_87 (by decide) (fun c2 => ?_) (fun c2 => ?_)
    · refine lv_iconst (v := 0) hx hb dX5_holds_94 (by decide) ?_
      exact hend _ _ _ _ _ (by rw [← hr, r_X5_holds, if_pos c2]) hP hS dX5_holds_95
    · refine lv_iconst (v := 1) hx hb dX5_holds_90 (by decide) ?_
      refine lv_goto (tgt := 95) hx hb dX5_holds_91 (by decide) ?_
      exact hend _ _ _ _ _ (by rw [← hr, r_X5_holds, if_neg c2]) hP hS dX5_holds_95
  refine lv_if_eq (tgt := 53) hx hb dX5_holds_41 (by decide) (fun c1 => ?_) (fun c1 => ?_)
  · refine lv_iconst (v := 0) hx hb dX5_holds_53 (by decide) ?_
    have e_mg_X5_holds_41 : (mg_X5_holds_41 Y ru k) = 0 := by rw [mg_X5_holds_41, if_pos c1]
    have jj := j54
    rw [e_mg_X5_holds_41] at jj
    exact jj ls H locs (lv_sub hl [1, 2, 3, 4, 5, 0] rfl) hP hD hS
  · refine lv_aload_n hx hb dX5_holds_44 rfl (lv_at hl 1 rfl) ?_
    refine kget (v := .ref (a 2)) C hP igX5 rfl 2 (by decide) wd_2_148 0 rfl rfl dX5_holds_45 ?_
    refine lv_iconst (v := 2) hx hb dX5_holds_48 (by decide) ?_
    refine kald C hP 1 rfl (vp_in_iff.mpr (by decide)) (k := 2) rfl dX5_holds_49 ?_
    refine lv_goto (tgt := 54) hx hb dX5_holds_50 (by decide) ?_
    have e_mg_X5_holds_41 : (mg_X5_holds_41 Y ru k) = (ru 2) := by rw [mg_X5_holds_41, if_neg c1]
    have jj := j54
    rw [e_mg_X5_holds_41] at jj
    exact jj ls H locs (lv_sub hl [1, 2, 3, 4, 5, 0] rfl) hP hD hS
def lr_X5_warmthOf_8 (Y : Nat → Int32) (ru : Nat → Int32) (ic : Nat → Int32) (pr : Nat → Int32) (w : Int32) (k : Int32) (sh : Int32) : Nat → (Int32) → (Int32) → (Int32)
  | 0, _, _ => 0
  | n + 1, lo, hi => (if hi ≤ lo then lo else (if (r_X5_holds Y ru ic pr w k (lo + (((hi - lo) + 1) / 2)) sh) = 0 then (lr_X5_warmthOf_8 Y ru ic pr w k sh n lo ((lo + (((hi - lo) + 1) / 2)) - 1)) else (lr_X5_warmthOf_8 Y ru ic pr w k sh n (lo + (((hi - lo) + 1) / 2)) hi)))
noncomputable def r_X5_warmthOf (Y : Nat → Int32) (ru : Nat → Int32) (ic : Nat → Int32) (pr : Nat → Int32) (w : Int32) (k : Int32) (sh : Int32) : Int32 := (lr_X5_warmthOf_8 Y ru ic pr w k sh (fu 601) (-600) 0)
theorem ck_X5_warmthOf : CK yX5_warmthOf cX5_warmthOf 7 (some .int) 3 := ⟨wd_3_53, wd_1_7, by decide, by decide, by decide +kernel⟩
set_option maxHeartbeats 4000000 in
set_option maxRecDepth 100000 in
theorem c_X5_warmthOf (l : Launch) (D : va_G) (cI : ClassId) (a : Nat → Nat) (Y : Nat → Int32) (ru : Nat → Int32) (ic : Nat → Int32) (pr : Nat → Int32) (w : Int32) (k : Int32) (sh : Int32) (hw : w = 0 ∨ w = 1) (hk : vp_in ((24 * w) + k) 48) (hf : ¬ (ru 0) = 0) (hc : ¬ (Y 1) = 0) (hbz : ¬ ((ru 4) + ((ru 5) * ((100 * ((ru 0) - (ic (Int32.toNatClampNeg ((24 * w) + k))))) / (ru 0)))) = 0) : MI l D cI yX5_warmthOf cX5_warmthOf 7 (some .int) 4 92 [.ref (a 0), .int w, .int k, .int sh] [yc a Y, ac cI (a 2) 11 ru, ac cI (a 6) 48 ic, ac cI (a 12) 2 pr] (r_X5_warmthOf Y ru ic pr w k sh) [yc a Y, ac cI (a 2) 11 ru, ac cI (a 6) 48 ic, ac cI (a 12) 2 pr] := by
  generalize hr : (r_X5_warmthOf Y ru ic pr w k sh) = r
  refine MI.mk (own := RX5) rfl (by decide) rfl (Nat.le_of_ble_eq_true rfl) ?_
  intro p e s m args below meth c A Q C hD hend H locs ls hP hS hl
  have hx := C.1.1
  have hb := C.1.2.1
  have hl : lv_has ls 7 [(0, .ref (a 0)), (1, .int w), (2, .int k), (3, .int sh)] := hl
  refine lv_sipush (v := (-600)) hx hb dX5_warmthOf_0 (by decide) ?_
  refine lv_istore (lv' := [(4, .int (-600)), (0, .ref (a 0)), (1, .int w), (2, .int k), (3, .int sh)]) hx hb dX5_warmthOf_3 hl (by decide) rfl (fun ls hl => ?_)
  refine lv_iconst (v := 0) hx hb dX5_warmthOf_5 (by decide) ?_
  refine lv_istore (lv' := [(5, .int 0), (4, .int (-600)), (0, .ref (a 0)), (1, .int w), (2, .int k), (3, .int sh)]) hx hb dX5_warmthOf_6 hl (by decide) rfl (fun ls hl => ?_)
  have lp8 : ∀ (n : Nat) (lo : Int32) (hi : Int32), (-600 ≤ Int32.toInt lo ∧ Int32.toInt lo ≤ Int32.toInt hi ∧ Int32.toInt hi ≤ 0) → (Int32.toInt hi - Int32.toInt lo).toNat < n → lr_X5_warmthOf_8 Y ru ic pr w k sh n lo hi = r → ∀ (ls : Array Slot) (H : Heap) (locs : List Loc), lv_has ls 7 [(0, .ref (a 0)), (1, .int w), (2, .int k), (3, .int sh), (4, .int lo), (5, .int hi)] → va_P D vwCl [yc a Y, ac cI (a 2) 11 ru, ac cI (a 6) 48 ic, ac cI (a 12) 2 pr] H → va_D A [yc a Y, ac cI (a 2) 11 ru, ac cI (a 6) 48 ic, ac cI (a 12) 2 pr] → va_S A s.heap H locs → W p l e (RM 4 92) s m args below meth c H locs 0 0 Q (F0 m 8 ls []) := by
    clear hl hP hD hS
    intro n
    induction n with
    | zero =>
      intro lo hi hb2 hm
      exact absurd hm (Nat.not_lt_zero _)
    | succ n ih =>
      intro lo hi hb2 hm hr ls H locs hl hP hD hS
      refine lv_iload hx hb dX5_warmthOf_8 (lv_at hl 4 rfl) ?_
      refine lv_iload hx hb dX5_warmthOf_10 (lv_at hl 5 rfl) ?_
      refine lv_icmp_ge (tgt := 57) hx hb dX5_warmthOf_12 (by decide) (fun c1 => ?_) (fun c1 => ?_)
      · refine lv_iload hx hb dX5_warmthOf_57 (lv_at hl 4 rfl) ?_
        exact hend _ _ _ _ _ (by rw [← hr, lr_X5_warmthOf_8, if_pos c1]) hP hS dX5_warmthOf_59
      · refine lv_iload hx hb dX5_warmthOf_15 (lv_at hl 4 rfl) ?_
        refine lv_iload hx hb dX5_warmthOf_17 (lv_at hl 5 rfl) ?_
        refine lv_iload hx hb dX5_warmthOf_19 (lv_at hl 4 rfl) ?_
        refine lv_isub hx hb dX5_warmthOf_21 ?_
        refine lv_iconst (v := 1) hx hb dX5_warmthOf_22 (by decide) ?_
        refine lv_iadd hx hb dX5_warmthOf_23 ?_
        refine lv_iconst (v := 2) hx hb dX5_warmthOf_24 (by decide) ?_
        refine lv_idiv hx hb dX5_warmthOf_25 (by decide) ?_
        refine lv_iadd hx hb dX5_warmthOf_26 ?_
        refine lv_istore (lv' := [(6, .int (lo + (((hi - lo) + 1) / 2))), (0, .ref (a 0)), (1, .int w), (2, .int k), (3, .int sh), (4, .int lo), (5, .int hi)]) hx hb dX5_warmthOf_27 hl (by decide) rfl (fun ls hl => ?_)
        refine lv_aload_n hx hb dX5_warmthOf_29 rfl (lv_at hl 1 rfl) ?_
        refine lv_iload_n hx hb dX5_warmthOf_30 rfl (lv_at hl 2 rfl) ?_
        refine lv_iload_n hx hb dX5_warmthOf_31 rfl (lv_at hl 3 rfl) ?_
        refine lv_iload hx hb dX5_warmthOf_32 (lv_at hl 0 rfl) ?_
        refine lv_iload_n hx hb dX5_warmthOf_34 rfl (lv_at hl 4 rfl) ?_
        refine go_i (ws' := [yc a Y, ac cI (a 2) 11 ru, ac cI (a 6) 48 ic, ac cI (a 12) 2 pr]) C (rn_V (As := [.int w, .int k, .int (lo + (((hi - lo) + 1) / 2)), .int sh]) (rest := []) C (c_X5_holds l D cI a Y ru ic pr w k (lo + (((hi - lo) + 1) / 2)) sh hw hk hf hc hbz H.size) ck_X5_holds wd_3_56 wd_0_11 wd_3_54 ⟨Nat.le_of_ble_eq_true rfl, Nat.le_of_ble_eq_true rfl⟩ ⟨Nat.le_refl _, Nat.le_refl _⟩ (ci := 5) (q0 := 0) rfl rfl hP hD hS [0, 1, 2, 3] rfl rfl hl rfl (Nat.le_of_ble_eq_true rfl) dX5_warmthOf_35) hP hD hS [0, 1, 2, 3] rfl rfl rfl (fun H locs hP hD hS => ?_)
        refine lv_if_eq (tgt := 48) hx hb dX5_warmthOf_38 (by decide) (fun c2 => ?_) (fun c2 => ?_)
        · refine lv_iload hx hb dX5_warmthOf_48 (lv_at hl 0 rfl) ?_
          refine lv_iconst (v := 1) hx hb dX5_warmthOf_50 (by decide) ?_
          refine lv_isub hx hb dX5_warmthOf_51 ?_
          refine lv_istore (lv' := [(5, .int ((lo + (((hi - lo) + 1) / 2)) - 1)), (6, .int (lo + (((hi - lo) + 1) / 2))), (0, .ref (a 0)), (1, .int w), (2, .int k), (3, .int sh), (4, .int lo)]) hx hb dX5_warmthOf_52 hl (by decide) rfl (fun ls hl => ?_)
          refine lv_goto (tgt := 8) hx hb dX5_warmthOf_54 (by decide) ?_
          exact ih lo ((lo + (((hi - lo) + 1) / 2)) - 1) (mid_hi_in hb2 c1) (mid_hi hb2 c1 hm) (by rw [← hr, lr_X5_warmthOf_8, if_neg c1, if_pos c2]) ls H locs (lv_sub hl [2, 3, 4, 5, 6, 0] rfl) hP hD hS
        · refine lv_iload hx hb dX5_warmthOf_41 (lv_at hl 0 rfl) ?_
          refine lv_istore (lv' := [(4, .int (lo + (((hi - lo) + 1) / 2))), (6, .int (lo + (((hi - lo) + 1) / 2))), (0, .ref (a 0)), (1, .int w), (2, .int k), (3, .int sh), (5, .int hi)]) hx hb dX5_warmthOf_43 hl (by decide) rfl (fun ls hl => ?_)
          refine lv_goto (tgt := 54) hx hb dX5_warmthOf_45 (by decide) ?_
          refine lv_goto (tgt := 8) hx hb dX5_warmthOf_54 (by decide) ?_
          exact ih (lo + (((hi - lo) + 1) / 2)) hi (mid_lo_in hb2 c1) (mid_lo hb2 c1 hm) (by rw [← hr, lr_X5_warmthOf_8, if_neg c1, if_neg c2]) ls H locs (lv_sub hl [2, 3, 4, 5, 0, 6] rfl) hP hD hS
  exact lp8 (fu 601) (-600) 0 (by decide) (by rw [fu_eq]; decide) (by rw [← hr, r_X5_warmthOf]) ls H locs (lv_sub hl [2, 3, 4, 5, 1, 0] rfl) hP hD hS
def lq_X5_fill_5_ic (ru : Nat → Int32) (mn : Nat → Int32) (pr : Nat → Int32) (hg : Nat → Int32) (al : Nat → Int32) (sd : Nat → Int32) (w : Int32) (se : Int32) : Nat → (Int32) → (Nat → Int32) → (Nat → Int32) → (Nat → Int32) → (Nat → Int32) → (Nat → Int32) → (Nat → Int32)
  | 0, _, _, _, _, _, _ => fun _ => 0
  | n + 1, i, ic, wm, ga, fe, dr => (if ((24 * w) + 24) ≤ i then ic else (lq_X5_fill_5_ic ru mn pr hg al sd w se n (i + 1) (upd ic (Int32.toNatClampNeg i) (ru 0)) (upd wm (Int32.toNatClampNeg i) (-6)) (upd ga (Int32.toNatClampNeg i) 0) (upd fe (Int32.toNatClampNeg i) (-6)) (upd dr (Int32.toNatClampNeg i) (-6))))
def lq_X5_fill_5_wm (ru : Nat → Int32) (mn : Nat → Int32) (pr : Nat → Int32) (hg : Nat → Int32) (al : Nat → Int32) (sd : Nat → Int32) (w : Int32) (se : Int32) : Nat → (Int32) → (Nat → Int32) → (Nat → Int32) → (Nat → Int32) → (Nat → Int32) → (Nat → Int32) → (Nat → Int32)
  | 0, _, _, _, _, _, _ => fun _ => 0
  | n + 1, i, ic, wm, ga, fe, dr => (if ((24 * w) + 24) ≤ i then wm else (lq_X5_fill_5_wm ru mn pr hg al sd w se n (i + 1) (upd ic (Int32.toNatClampNeg i) (ru 0)) (upd wm (Int32.toNatClampNeg i) (-6)) (upd ga (Int32.toNatClampNeg i) 0) (upd fe (Int32.toNatClampNeg i) (-6)) (upd dr (Int32.toNatClampNeg i) (-6))))
def lq_X5_fill_5_ga (ru : Nat → Int32) (mn : Nat → Int32) (pr : Nat → Int32) (hg : Nat → Int32) (al : Nat → Int32) (sd : Nat → Int32) (w : Int32) (se : Int32) : Nat → (Int32) → (Nat → Int32) → (Nat → Int32) → (Nat → Int32) → (Nat → Int32) → (Nat → Int32) → (Nat → Int32)
  | 0, _, _, _, _, _, _ => fun _ => 0
  | n + 1, i, ic, wm, ga, fe, dr => (if ((24 * w) + 24) ≤ i then ga else (lq_X5_fill_5_ga ru mn pr hg al sd w se n (i + 1) (upd ic (Int32.toNatClampNeg i) (ru 0)) (upd wm (Int32.toNatClampNeg i) (-6)) (upd ga (Int32.toNatClampNeg i) 0) (upd fe (Int32.toNatClampNeg i) (-6)) (upd dr (Int32.toNatClampNeg i) (-6))))
def lq_X5_fill_5_fe (ru : Nat → Int32) (mn : Nat → Int32) (pr : Nat → Int32) (hg : Nat → Int32) (al : Nat → Int32) (sd : Nat → Int32) (w : Int32) (se : Int32) : Nat → (Int32) → (Nat → Int32) → (Nat → Int32) → (Nat → Int32) → (Nat → Int32) → (Nat → Int32) → (Nat → Int32)
  | 0, _, _, _, _, _, _ => fun _ => 0
  | n + 1, i, ic, wm, ga, fe, dr => (if ((24 * w) + 24) ≤ i then fe else (lq_X5_fill_5_fe ru mn pr hg al sd w se n (i + 1) (upd ic (Int32.toNatClampNeg i) (ru 0)) (upd wm (Int32.toNatClampNeg i) (-6)) (upd ga (Int32.toNatClampNeg i) 0) (upd fe (Int32.toNatClampNeg i) (-6)) (upd dr (Int32.toNatClampNeg i) (-6))))
def lq_X5_fill_5_dr (ru : Nat → Int32) (mn : Nat → Int32) (pr : Nat → Int32) (hg : Nat → Int32) (al : Nat → Int32) (sd : Nat → Int32) (w : Int32) (se : Int32) : Nat → (Int32) → (Nat → Int32) → (Nat → Int32) → (Nat → Int32) → (Nat → Int32) → (Nat → Int32) → (Nat → Int32)
  | 0, _, _, _, _, _, _ => fun _ => 0
  | n + 1, i, ic, wm, ga, fe, dr => (if ((24 * w) + 24) ≤ i then dr else (lq_X5_fill_5_dr ru mn pr hg al sd w se n (i + 1) (upd ic (Int32.toNatClampNeg i) (ru 0)) (upd wm (Int32.toNatClampNeg i) (-6)) (upd ga (Int32.toNatClampNeg i) 0) (upd fe (Int32.toNatClampNeg i) (-6)) (upd dr (Int32.toNatClampNeg i) (-6))))
def lq_X5_fill_5_mn (ru : Nat → Int32) (mn : Nat → Int32) (pr : Nat → Int32) (hg : Nat → Int32) (al : Nat → Int32) (sd : Nat → Int32) (w : Int32) (se : Int32) : Nat → (Int32) → (Nat → Int32) → (Nat → Int32) → (Nat → Int32) → (Nat → Int32) → (Nat → Int32) → (Nat → Int32)
  | 0, _, _, _, _, _, _ => fun _ => 0
  | n + 1, i, ic, wm, ga, fe, dr => (if ((24 * w) + 24) ≤ i then (upd mn (Int32.toNatClampNeg w) 0) else (lq_X5_fill_5_mn ru mn pr hg al sd w se n (i + 1) (upd ic (Int32.toNatClampNeg i) (ru 0)) (upd wm (Int32.toNatClampNeg i) (-6)) (upd ga (Int32.toNatClampNeg i) 0) (upd fe (Int32.toNatClampNeg i) (-6)) (upd dr (Int32.toNatClampNeg i) (-6))))
def lq_X5_fill_5_pr (ru : Nat → Int32) (mn : Nat → Int32) (pr : Nat → Int32) (hg : Nat → Int32) (al : Nat → Int32) (sd : Nat → Int32) (w : Int32) (se : Int32) : Nat → (Int32) → (Nat → Int32) → (Nat → Int32) → (Nat → Int32) → (Nat → Int32) → (Nat → Int32) → (Nat → Int32)
  | 0, _, _, _, _, _, _ => fun _ => 0
  | n + 1, i, ic, wm, ga, fe, dr => (if ((24 * w) + 24) ≤ i then (upd pr (Int32.toNatClampNeg w) se) else (lq_X5_fill_5_pr ru mn pr hg al sd w se n (i + 1) (upd ic (Int32.toNatClampNeg i) (ru 0)) (upd wm (Int32.toNatClampNeg i) (-6)) (upd ga (Int32.toNatClampNeg i) 0) (upd fe (Int32.toNatClampNeg i) (-6)) (upd dr (Int32.toNatClampNeg i) (-6))))
def lq_X5_fill_5_hg (ru : Nat → Int32) (mn : Nat → Int32) (pr : Nat → Int32) (hg : Nat → Int32) (al : Nat → Int32) (sd : Nat → Int32) (w : Int32) (se : Int32) : Nat → (Int32) → (Nat → Int32) → (Nat → Int32) → (Nat → Int32) → (Nat → Int32) → (Nat → Int32) → (Nat → Int32)
  | 0, _, _, _, _, _, _ => fun _ => 0
  | n + 1, i, ic, wm, ga, fe, dr => (if ((24 * w) + 24) ≤ i then (upd hg (Int32.toNatClampNeg w) se) else (lq_X5_fill_5_hg ru mn pr hg al sd w se n (i + 1) (upd ic (Int32.toNatClampNeg i) (ru 0)) (upd wm (Int32.toNatClampNeg i) (-6)) (upd ga (Int32.toNatClampNeg i) 0) (upd fe (Int32.toNatClampNeg i) (-6)) (upd dr (Int32.toNatClampNeg i) (-6))))
def lq_X5_fill_5_al (ru : Nat → Int32) (mn : Nat → Int32) (pr : Nat → Int32) (hg : Nat → Int32) (al : Nat → Int32) (sd : Nat → Int32) (w : Int32) (se : Int32) : Nat → (Int32) → (Nat → Int32) → (Nat → Int32) → (Nat → Int32) → (Nat → Int32) → (Nat → Int32) → (Nat → Int32)
  | 0, _, _, _, _, _, _ => fun _ => 0
  | n + 1, i, ic, wm, ga, fe, dr => (if ((24 * w) + 24) ≤ i then (upd al (Int32.toNatClampNeg w) 0) else (lq_X5_fill_5_al ru mn pr hg al sd w se n (i + 1) (upd ic (Int32.toNatClampNeg i) (ru 0)) (upd wm (Int32.toNatClampNeg i) (-6)) (upd ga (Int32.toNatClampNeg i) 0) (upd fe (Int32.toNatClampNeg i) (-6)) (upd dr (Int32.toNatClampNeg i) (-6))))
def lq_X5_fill_5_sd (ru : Nat → Int32) (mn : Nat → Int32) (pr : Nat → Int32) (hg : Nat → Int32) (al : Nat → Int32) (sd : Nat → Int32) (w : Int32) (se : Int32) : Nat → (Int32) → (Nat → Int32) → (Nat → Int32) → (Nat → Int32) → (Nat → Int32) → (Nat → Int32) → (Nat → Int32)
  | 0, _, _, _, _, _, _ => fun _ => 0
  | n + 1, i, ic, wm, ga, fe, dr => (if ((24 * w) + 24) ≤ i then (upd sd (Int32.toNatClampNeg w) 0) else (lq_X5_fill_5_sd ru mn pr hg al sd w se n (i + 1) (upd ic (Int32.toNatClampNeg i) (ru 0)) (upd wm (Int32.toNatClampNeg i) (-6)) (upd ga (Int32.toNatClampNeg i) 0) (upd fe (Int32.toNatClampNeg i) (-6)) (upd dr (Int32.toNatClampNeg i) (-6))))
noncomputable def q_X5_fill_ic (ru : Nat → Int32) (ic : Nat → Int32) (wm : Nat → Int32) (ga : Nat → Int32) (fe : Nat → Int32) (dr : Nat → Int32) (mn : Nat → Int32) (pr : Nat → Int32) (hg : Nat → Int32) (al : Nat → Int32) (sd : Nat → Int32) (w : Int32) (se : Int32) : Nat → Int32 := (lq_X5_fill_5_ic ru mn pr hg al sd w se (fu 25) (24 * w) ic wm ga fe dr)
noncomputable def q_X5_fill_wm (ru : Nat → Int32) (ic : Nat → Int32) (wm : Nat → Int32) (ga : Nat → Int32) (fe : Nat → Int32) (dr : Nat → Int32) (mn : Nat → Int32) (pr : Nat → Int32) (hg : Nat → Int32) (al : Nat → Int32) (sd : Nat → Int32) (w : Int32) (se : Int32) : Nat → Int32 := (lq_X5_fill_5_wm ru mn pr hg al sd w se (fu 25) (24 * w) ic wm ga fe dr)
noncomputable def q_X5_fill_ga (ru : Nat → Int32) (ic : Nat → Int32) (wm : Nat → Int32) (ga : Nat → Int32) (fe : Nat → Int32) (dr : Nat → Int32) (mn : Nat → Int32) (pr : Nat → Int32) (hg : Nat → Int32) (al : Nat → Int32) (sd : Nat → Int32) (w : Int32) (se : Int32) : Nat → Int32 := (lq_X5_fill_5_ga ru mn pr hg al sd w se (fu 25) (24 * w) ic wm ga fe dr)
noncomputable def q_X5_fill_fe (ru : Nat → Int32) (ic : Nat → Int32) (wm : Nat → Int32) (ga : Nat → Int32) (fe : Nat → Int32) (dr : Nat → Int32) (mn : Nat → Int32) (pr : Nat → Int32) (hg : Nat → Int32) (al : Nat → Int32) (sd : Nat → Int32) (w : Int32) (se : Int32) : Nat → Int32 := (lq_X5_fill_5_fe ru mn pr hg al sd w se (fu 25) (24 * w) ic wm ga fe dr)
noncomputable def q_X5_fill_dr (ru : Nat → Int32) (ic : Nat → Int32) (wm : Nat → Int32) (ga : Nat → Int32) (fe : Nat → Int32) (dr : Nat → Int32) (mn : Nat → Int32) (pr : Nat → Int32) (hg : Nat → Int32) (al : Nat → Int32) (sd : Nat → Int32) (w : Int32) (se : Int32) : Nat → Int32 := (lq_X5_fill_5_dr ru mn pr hg al sd w se (fu 25) (24 * w) ic wm ga fe dr)
noncomputable def q_X5_fill_mn (ru : Nat → Int32) (ic : Nat → Int32) (wm : Nat → Int32) (ga : Nat → Int32) (fe : Nat → Int32) (dr : Nat → Int32) (mn : Nat → Int32) (pr : Nat → Int32) (hg : Nat → Int32) (al : Nat → Int32) (sd : Nat → Int32) (w : Int32) (se : Int32) : Nat → Int32 := (lq_X5_fill_5_mn ru mn pr hg al sd w se (fu 25) (24 * w) ic wm ga fe dr)
noncomputable def q_X5_fill_pr (ru : Nat → Int32) (ic : Nat → Int32) (wm : Nat → Int32) (ga : Nat → Int32) (fe : Nat → Int32) (dr : Nat → Int32) (mn : Nat → Int32) (pr : Nat → Int32) (hg : Nat → Int32) (al : Nat → Int32) (sd : Nat → Int32) (w : Int32) (se : Int32) : Nat → Int32 := (lq_X5_fill_5_pr ru mn pr hg al sd w se (fu 25) (24 * w) ic wm ga fe dr)
noncomputable def q_X5_fill_hg (ru : Nat → Int32) (ic : Nat → Int32) (wm : Nat → Int32) (ga : Nat → Int32) (fe : Nat → Int32) (dr : Nat → Int32) (mn : Nat → Int32) (pr : Nat → Int32) (hg : Nat → Int32) (al : Nat → Int32) (sd : Nat → Int32) (w : Int32) (se : Int32) : Nat → Int32 := (lq_X5_fill_5_hg ru mn pr hg al sd w se (fu 25) (24 * w) ic wm ga fe dr)
noncomputable def q_X5_fill_al (ru : Nat → Int32) (ic : Nat → Int32) (wm : Nat → Int32) (ga : Nat → Int32) (fe : Nat → Int32) (dr : Nat → Int32) (mn : Nat → Int32) (pr : Nat → Int32) (hg : Nat → Int32) (al : Nat → Int32) (sd : Nat → Int32) (w : Int32) (se : Int32) : Nat → Int32 := (lq_X5_fill_5_al ru mn pr hg al sd w se (fu 25) (24 * w) ic wm ga fe dr)
noncomputable def q_X5_fill_sd (ru : Nat → Int32) (ic : Nat → Int32) (wm : Nat → Int32) (ga : Nat → Int32) (fe : Nat → Int32) (dr : Nat → Int32) (mn : Nat → Int32) (pr : Nat → Int32) (hg : Nat → Int32) (al : Nat → Int32) (sd : Nat → Int32) (w : Int32) (se : Int32) : Nat → Int32 := (lq_X5_fill_5_sd ru mn pr hg al sd w se (fu 25) (24 * w) ic wm ga fe dr)
theorem ck_X5_fill : CK yX5_fill cX5_fill 4 none 2 := ⟨wd_3_30, wd_1_7, by decide, by decide, by decide +kernel⟩
set_option maxHeartbeats 4000000 in
set_option maxRecDepth 100000 in
theorem c_X5_fill (l : Launch) (D : va_G) (cI : ClassId) (a : Nat → Nat) (Y : Nat → Int32) (ru : Nat → Int32) (ic : Nat → Int32) (wm : Nat → Int32) (ga : Nat → Int32) (fe : Nat → Int32) (dr : Nat → Int32) (mn : Nat → Int32) (pr : Nat → Int32) (hg : Nat → Int32) (al : Nat → Int32) (sd : Nat → Int32) (w : Int32) (se : Int32) (hw : w = 0 ∨ w = 1) : MV l D cI yX5_fill cX5_fill 4 0 0 [.ref (a 0), .int w, .int se] [yc a Y, ac cI (a 2) 11 ru, ac cI (a 6) 48 ic, ac cI (a 7) 48 wm, ac cI (a 8) 48 ga, ac cI (a 9) 48 fe, ac cI (a 10) 48 dr, ac cI (a 11) 2 mn, ac cI (a 12) 2 pr, ac cI (a 13) 2 hg, ac cI (a 14) 2 al, ac cI (a 15) 2 sd] [yc a Y, ac cI (a 2) 11 ru, ac cI (a 6) 48 (q_X5_fill_ic ru ic wm ga fe dr mn pr hg al sd w se), ac cI (a 7) 48 (q_X5_fill_wm ru ic wm ga fe dr mn pr hg al sd w se), ac cI (a 8) 48 (q_X5_fill_ga ru ic wm ga fe dr mn pr hg al sd w se), ac cI (a 9) 48 (q_X5_fill_fe ru ic wm ga fe dr mn pr hg al sd w se), ac cI (a 10) 48 (q_X5_fill_dr ru ic wm ga fe dr mn pr hg al sd w se), ac cI (a 11) 2 (q_X5_fill_mn ru ic wm ga fe dr mn pr hg al sd w se), ac cI (a 12) 2 (q_X5_fill_pr ru ic wm ga fe dr mn pr hg al sd w se), ac cI (a 13) 2 (q_X5_fill_hg ru ic wm ga fe dr mn pr hg al sd w se), ac cI (a 14) 2 (q_X5_fill_al ru ic wm ga fe dr mn pr hg al sd w se), ac cI (a 15) 2 (q_X5_fill_sd ru ic wm ga fe dr mn pr hg al sd w se)] := by
  generalize ho_ic : (q_X5_fill_ic ru ic wm ga fe dr mn pr hg al sd w se) = o_ic
  generalize ho_wm : (q_X5_fill_wm ru ic wm ga fe dr mn pr hg al sd w se) = o_wm
  generalize ho_ga : (q_X5_fill_ga ru ic wm ga fe dr mn pr hg al sd w se) = o_ga
  generalize ho_fe : (q_X5_fill_fe ru ic wm ga fe dr mn pr hg al sd w se) = o_fe
  generalize ho_dr : (q_X5_fill_dr ru ic wm ga fe dr mn pr hg al sd w se) = o_dr
  generalize ho_mn : (q_X5_fill_mn ru ic wm ga fe dr mn pr hg al sd w se) = o_mn
  generalize ho_pr : (q_X5_fill_pr ru ic wm ga fe dr mn pr hg al sd w se) = o_pr
  generalize ho_hg : (q_X5_fill_hg ru ic wm ga fe dr mn pr hg al sd w se) = o_hg
  generalize ho_al : (q_X5_fill_al ru ic wm ga fe dr mn pr hg al sd w se) = o_al
  generalize ho_sd : (q_X5_fill_sd ru ic wm ga fe dr mn pr hg al sd w se) = o_sd
  refine MV.mk (own := RX5) rfl (by decide) (Nat.le_of_ble_eq_true rfl) ?_
  intro p e s m args below meth c A Q C hD hend H locs ls hP hS hl
  have hx := C.1.1
  have hb := C.1.2.1
  have hl : lv_has ls 4 [(0, .ref (a 0)), (1, .int w), (2, .int se)] := hl
  refine lv_bipush (v := 24) hx hb dX5_fill_0 (by decide) ?_
  refine lv_iload_n hx hb dX5_fill_2 rfl (lv_at hl 1 rfl) ?_
  refine lv_imul hx hb dX5_fill_3 ?_
  refine lv_istore_n (lv' := [(3, .int (24 * w)), (0, .ref (a 0)), (1, .int w), (2, .int se)]) hx hb dX5_fill_4 rfl hl (by decide) rfl (fun ls hl => ?_)
  have lp5 : ∀ (n : Nat) (i : Int32) (ic : Nat → Int32) (wm : Nat → Int32) (ga : Nat → Int32) (fe : Nat → Int32) (dr : Nat → Int32), Int32.toInt (24 * w) ≤ Int32.toInt i → (Int32.toInt ((24 * w) + 24) - Int32.toInt i).toNat < n → lq_X5_fill_5_ic ru mn pr hg al sd w se n i ic wm ga fe dr = o_ic → lq_X5_fill_5_wm ru mn pr hg al sd w se n i ic wm ga fe dr = o_wm → lq_X5_fill_5_ga ru mn pr hg al sd w se n i ic wm ga fe dr = o_ga → lq_X5_fill_5_fe ru mn pr hg al sd w se n i ic wm ga fe dr = o_fe → lq_X5_fill_5_dr ru mn pr hg al sd w se n i ic wm ga fe dr = o_dr → lq_X5_fill_5_mn ru mn pr hg al sd w se n i ic wm ga fe dr = o_mn → lq_X5_fill_5_pr ru mn pr hg al sd w se n i ic wm ga fe dr = o_pr → lq_X5_fill_5_hg ru mn pr hg al sd w se n i ic wm ga fe dr = o_hg → lq_X5_fill_5_al ru mn pr hg al sd w se n i ic wm ga fe dr = o_al → lq_X5_fill_5_sd ru mn pr hg al sd w se n i ic wm ga fe dr = o_sd → ∀ (ls : Array Slot) (H : Heap) (locs : List Loc), lv_has ls 4 [(0, .ref (a 0)), (1, .int w), (2, .int se), (3, .int i)] → va_P D vwCl [yc a Y, ac cI (a 2) 11 ru, ac cI (a 6) 48 ic, ac cI (a 7) 48 wm, ac cI (a 8) 48 ga, ac cI (a 9) 48 fe, ac cI (a 10) 48 dr, ac cI (a 11) 2 mn, ac cI (a 12) 2 pr, ac cI (a 13) 2 hg, ac cI (a 14) 2 al, ac cI (a 15) 2 sd] H → va_D A [yc a Y, ac cI (a 2) 11 ru, ac cI (a 6) 48 ic, ac cI (a 7) 48 wm, ac cI (a 8) 48 ga, ac cI (a 9) 48 fe, ac cI (a 10) 48 dr, ac cI (a 11) 2 mn, ac cI (a 12) 2 pr, ac cI (a 13) 2 hg, ac cI (a 14) 2 al, ac cI (a 15) 2 sd] → va_S A s.heap H locs → W p l e (RM 0 0) s m args below meth c H locs 0 0 Q (F0 m 5 ls []) := by
    clear hl hP hD hS
    intro n
    induction n with
    | zero =>
      intro i ic wm ga fe dr h0 hm
      exact absurd hm (Nat.not_lt_zero _)
    | succ n ih =>
      intro i ic wm ga fe dr h0 hm ho_ic ho_wm ho_ga ho_fe ho_dr ho_mn ho_pr ho_hg ho_al ho_sd ls H locs hl hP hD hS
      refine lv_iload_n hx hb dX5_fill_5 rfl (lv_at hl 3 rfl) ?_
      refine lv_bipush (v := 24) hx hb dX5_fill_6 (by decide) ?_
      refine lv_iload_n hx hb dX5_fill_8 rfl (lv_at hl 1 rfl) ?_
      refine lv_imul hx hb dX5_fill_9 ?_
      refine lv_bipush (v := 24) hx hb dX5_fill_10 (by decide) ?_
      refine lv_iadd hx hb dX5_fill_12 ?_
      refine lv_icmp_ge (tgt := 65) hx hb dX5_fill_13 (by decide) (fun c1 => ?_) (fun c1 => ?_)
      · refine lv_aload_n hx hb dX5_fill_65 rfl (lv_at hl 0 rfl) ?_
        refine kget (v := .ref (a 11)) C hP igX5 rfl 11 (by decide) wd_2_157 0 rfl rfl dX5_fill_66 ?_
        refine lv_iload_n hx hb dX5_fill_69 rfl (lv_at hl 1 rfl) ?_
        refine lv_iconst (v := 0) hx hb dX5_fill_70 (by decide) ?_
        refine kast (ws' := [yc a Y, ac cI (a 2) 11 ru, ac cI (a 6) 48 ic, ac cI (a 7) 48 wm, ac cI (a 8) 48 ga, ac cI (a 9) 48 fe, ac cI (a 10) 48 dr, ac cI (a 11) 2 (upd mn (Int32.toNatClampNeg w) 0), ac cI (a 12) 2 pr, ac cI (a 13) 2 hg, ac cI (a 14) 2 al, ac cI (a 15) 2 sd]) C hP hD hS 7 rfl (in2 hw) (k := (Int32.toNatClampNeg w)) rfl rfl dX5_fill_71 (fun H locs hP hD hS => ?_)
        refine lv_aload_n hx hb dX5_fill_72 rfl (lv_at hl 0 rfl) ?_
        refine kget (v := .ref (a 12)) C hP igX5 rfl 12 (by decide) wd_2_158 0 rfl rfl dX5_fill_73 ?_
        refine lv_iload_n hx hb dX5_fill_76 rfl (lv_at hl 1 rfl) ?_
        refine lv_iload_n hx hb dX5_fill_77 rfl (lv_at hl 2 rfl) ?_
        refine kast (ws' := [yc a Y, ac cI (a 2) 11 ru, ac cI (a 6) 48 ic, ac cI (a 7) 48 wm, ac cI (a 8) 48 ga, ac cI (a 9) 48 fe, ac cI (a 10) 48 dr, ac cI (a 11) 2 (upd mn (Int32.toNatClampNeg w) 0), ac cI (a 12) 2 (upd pr (Int32.toNatClampNeg w) se), ac cI (a 13) 2 hg, ac cI (a 14) 2 al, ac cI (a 15) 2 sd]) C hP hD hS 8 rfl (in2 hw) (k := (Int32.toNatClampNeg w)) rfl rfl dX5_fill_78 (fun H locs hP hD hS => ?_)
        refine lv_aload_n hx hb dX5_fill_79 rfl (lv_at hl 0 rfl) ?_
        refine kget (v := .ref (a 13)) C hP igX5 rfl 13 (by decide) wd_2_159 0 rfl rfl dX5_fill_80 ?_
        refine lv_iload_n hx hb dX5_fill_83 rfl (lv_at hl 1 rfl) ?_
        refine lv_iload_n hx hb dX5_fill_84 rfl (lv_at hl 2 rfl) ?_
        refine kast (ws' := [yc a Y, ac cI (a 2) 11 ru, ac cI (a 6) 48 ic, ac cI (a 7) 48 wm, ac cI (a 8) 48 ga, ac cI (a 9) 48 fe, ac cI (a 10) 48 dr, ac cI (a 11) 2 (upd mn (Int32.toNatClampNeg w) 0), ac cI (a 12) 2 (upd pr (Int32.toNatClampNeg w) se), ac cI (a 13) 2 (upd hg (Int32.toNatClampNeg w) se), ac cI (a 14) 2 al, ac cI (a 15) 2 sd]) C hP hD hS 9 rfl (in2 hw) (k := (Int32.toNatClampNeg w)) rfl rfl dX5_fill_85 (fun H locs hP hD hS => ?_)
        refine lv_aload_n hx hb dX5_fill_86 rfl (lv_at hl 0 rfl) ?_
        refine kget (v := .ref (a 14)) C hP igX5 rfl 14 (by decide) wd_2_160 0 rfl rfl dX5_fill_87 ?_
        refine lv_iload_n hx hb dX5_fill_90 rfl (lv_at hl 1 rfl) ?_
        refine lv_iconst (v := 0) hx hb dX5_fill_91 (by decide) ?_
        refine kast (ws' := [yc a Y, ac cI (a 2) 11 ru, ac cI (a 6) 48 ic, ac cI (a 7) 48 wm, ac cI (a 8) 48 ga, ac cI (a 9) 48 fe, ac cI (a 10) 48 dr, ac cI (a 11) 2 (upd mn (Int32.toNatClampNeg w) 0), ac cI (a 12) 2 (upd pr (Int32.toNatClampNeg w) se), ac cI (a 13) 2 (upd hg (Int32.toNatClampNeg w) se), ac cI (a 14) 2 (upd al (Int32.toNatClampNeg w) 0), ac cI (a 15) 2 sd]) C hP hD hS 10 rfl (in2 hw) (k := (Int32.toNatClampNeg w)) rfl rfl dX5_fill_92 (fun H locs hP hD hS => ?_)
        refine lv_aload_n hx hb dX5_fill_93 rfl (lv_at hl 0 rfl) ?_
        refine kget (v := .ref (a 15)) C hP igX5 rfl 15 (by decide) wd_2_161 0 rfl rfl dX5_fill_94 ?_
        refine lv_iload_n hx hb dX5_fill_97 rfl (lv_at hl 1 rfl) ?_
        refine lv_iconst (v := 0) hx hb dX5_fill_98 (by decide) ?_
        refine kast (ws' := [yc a Y, ac cI (a 2) 11 ru, ac cI (a 6) 48 ic, ac cI (a 7) 48 wm, ac cI (a 8) 48 ga, ac cI (a 9) 48 fe, ac cI (a 10) 48 dr, ac cI (a 11) 2 (upd mn (Int32.toNatClampNeg w) 0), ac cI (a 12) 2 (upd pr (Int32.toNatClampNeg w) se), ac cI (a 13) 2 (upd hg (Int32.toNatClampNeg w) se), ac cI (a 14) 2 (upd al (Int32.toNatClampNeg w) 0), ac cI (a 15) 2 (upd sd (Int32.toNatClampNeg w) 0)]) C hP hD hS 11 rfl (in2 hw) (k := (Int32.toNatClampNeg w)) rfl rfl dX5_fill_99 (fun H locs hP hD hS => ?_)
        exact hend _ _ _ _ (by rw [← ho_ic, lq_X5_fill_5_ic, if_pos c1, ← ho_wm, lq_X5_fill_5_wm, if_pos c1, ← ho_ga, lq_X5_fill_5_ga, if_pos c1, ← ho_fe, lq_X5_fill_5_fe, if_pos c1, ← ho_dr, lq_X5_fill_5_dr, if_pos c1, ← ho_mn, lq_X5_fill_5_mn, if_pos c1, ← ho_pr, lq_X5_fill_5_pr, if_pos c1, ← ho_hg, lq_X5_fill_5_hg, if_pos c1, ← ho_al, lq_X5_fill_5_al, if_pos c1, ← ho_sd, lq_X5_fill_5_sd, if_pos c1]; exact hP) hS dX5_fill_100
      · refine lv_aload_n hx hb dX5_fill_16 rfl (lv_at hl 0 rfl) ?_
        refine kget (v := .ref (a 6)) C hP igX5 rfl 6 (by decide) wd_2_152 0 rfl rfl dX5_fill_17 ?_
        refine lv_iload_n hx hb dX5_fill_20 rfl (lv_at hl 3 rfl) ?_
        refine lv_aload_n hx hb dX5_fill_21 rfl (lv_at hl 0 rfl) ?_
        refine kget (v := .ref (a 2)) C hP igX5 rfl 2 (by decide) wd_2_148 0 rfl rfl dX5_fill_22 ?_
        refine lv_iconst (v := 0) hx hb dX5_fill_25 (by decide) ?_
        refine kald C hP 1 rfl (vp_in_iff.mpr (by decide)) (k := 0) rfl dX5_fill_26 ?_
        refine kast (ws' := [yc a Y, ac cI (a 2) 11 ru, ac cI (a 6) 48 (upd ic (Int32.toNatClampNeg i) (ru 0)), ac cI (a 7) 48 wm, ac cI (a 8) 48 ga, ac cI (a 9) 48 fe, ac cI (a 10) 48 dr, ac cI (a 11) 2 mn, ac cI (a 12) 2 pr, ac cI (a 13) 2 hg, ac cI (a 14) 2 al, ac cI (a 15) 2 sd]) C hP hD hS 2 rfl (inFill hw h0 c1) (k := (Int32.toNatClampNeg i)) rfl rfl dX5_fill_27 (fun H locs hP hD hS => ?_)
        refine lv_aload_n hx hb dX5_fill_28 rfl (lv_at hl 0 rfl) ?_
        refine kget (v := .ref (a 7)) C hP igX5 rfl 7 (by decide) wd_2_153 0 rfl rfl dX5_fill_29 ?_
        refine lv_iload_n hx hb dX5_fill_32 rfl (lv_at hl 3 rfl) ?_
        refine lv_bipush (v := (-6)) hx hb dX5_fill_33 (by decide) ?_
        refine kast (ws' := [yc a Y, ac cI (a 2) 11 ru, ac cI (a 6) 48 (upd ic (Int32.toNatClampNeg i) (ru 0)), ac cI (a 7) 48 (upd wm (Int32.toNatClampNeg i) (-6)), ac cI (a 8) 48 ga, ac cI (a 9) 48 fe, ac cI (a 10) 48 dr, ac cI (a 11) 2 mn, ac cI (a 12) 2 pr, ac cI (a 13) 2 hg, ac cI (a 14) 2 al, ac cI (a 15) 2 sd]) C hP hD hS 3 rfl (inFill hw h0 c1) (k := (Int32.toNatClampNeg i)) rfl rfl dX5_fill_35 (fun H locs hP hD hS => ?_)
        refine lv_aload_n hx hb dX5_fill_36 rfl (lv_at hl 0 rfl) ?_
        refine kget (v := .ref (a 8)) C hP igX5 rfl 8 (by decide) wd_2_154 0 rfl rfl dX5_fill_37 ?_
        refine lv_iload_n hx hb dX5_fill_40 rfl (lv_at hl 3 rfl) ?_
        refine lv_iconst (v := 0) hx hb dX5_fill_41 (by decide) ?_
        refine kast (ws' := [yc a Y, ac cI (a 2) 11 ru, ac cI (a 6) 48 (upd ic (Int32.toNatClampNeg i) (ru 0)), ac cI (a 7) 48 (upd wm (Int32.toNatClampNeg i) (-6)), ac cI (a 8) 48 (upd ga (Int32.toNatClampNeg i) 0), ac cI (a 9) 48 fe, ac cI (a 10) 48 dr, ac cI (a 11) 2 mn, ac cI (a 12) 2 pr, ac cI (a 13) 2 hg, ac cI (a 14) 2 al, ac cI (a 15) 2 sd]) C hP hD hS 4 rfl (inFill hw h0 c1) (k := (Int32.toNatClampNeg i)) rfl rfl dX5_fill_42 (fun H locs hP hD hS => ?_)
        refine lv_aload_n hx hb dX5_fill_43 rfl (lv_at hl 0 rfl) ?_
        refine kget (v := .ref (a 9)) C hP igX5 rfl 9 (by decide) wd_2_155 0 rfl rfl dX5_fill_44 ?_
        refine lv_iload_n hx hb dX5_fill_47 rfl (lv_at hl 3 rfl) ?_
        refine lv_bipush (v := (-6)) hx hb dX5_fill_48 (by decide) ?_
        refine kast (ws' := [yc a Y, ac cI (a 2) 11 ru, ac cI (a 6) 48 (upd ic (Int32.toNatClampNeg i) (ru 0)), ac cI (a 7) 48 (upd wm (Int32.toNatClampNeg i) (-6)), ac cI (a 8) 48 (upd ga (Int32.toNatClampNeg i) 0), ac cI (a 9) 48 (upd fe (Int32.toNatClampNeg i) (-6)), ac cI (a 10) 48 dr, ac cI (a 11) 2 mn, ac cI (a 12) 2 pr, ac cI (a 13) 2 hg, ac cI (a 14) 2 al, ac cI (a 15) 2 sd]) C hP hD hS 5 rfl (inFill hw h0 c1) (k := (Int32.toNatClampNeg i)) rfl rfl dX5_fill_50 (fun H locs hP hD hS => ?_)
        refine lv_aload_n hx hb dX5_fill_51 rfl (lv_at hl 0 rfl) ?_
        refine kget (v := .ref (a 10)) C hP igX5 rfl 10 (by decide) wd_2_156 0 rfl rfl dX5_fill_52 ?_
        refine lv_iload_n hx hb dX5_fill_55 rfl (lv_at hl 3 rfl) ?_
        refine lv_bipush (v := (-6)) hx hb dX5_fill_56 (by decide) ?_
        refine kast (ws' := [yc a Y, ac cI (a 2) 11 ru, ac cI (a 6) 48 (upd ic (Int32.toNatClampNeg i) (ru 0)), ac cI (a 7) 48 (upd wm (Int32.toNatClampNeg i) (-6)), ac cI (a 8) 48 (upd ga (Int32.toNatClampNeg i) 0), ac cI (a 9) 48 (upd fe (Int32.toNatClampNeg i) (-6)), ac cI (a 10) 48 (upd dr (Int32.toNatClampNeg i) (-6)), ac cI (a 11) 2 mn, ac cI (a 12) 2 pr, ac cI (a 13) 2 hg, ac cI (a 14) 2 al, ac cI (a 15) 2 sd]) C hP hD hS 6 rfl (inFill hw h0 c1) (k := (Int32.toNatClampNeg i)) rfl rfl dX5_fill_58 (fun H locs hP hD hS => ?_)
        refine lv_iinc (v := (i + 1)) (lv' := [(3, .int (i + 1)), (0, .ref (a 0)), (1, .int w), (2, .int se)]) hx hb dX5_fill_59 hl (k := 3) rfl rfl (by decide) rfl (fun ls hl => ?_)
        refine lv_goto (tgt := 5) hx hb dX5_fill_62 (by decide) ?_
        exact ih (i + 1) (upd ic (Int32.toNatClampNeg i) (ru 0)) (upd wm (Int32.toNatClampNeg i) (-6)) (upd ga (Int32.toNatClampNeg i) 0) (upd fe (Int32.toNatClampNeg i) (-6)) (upd dr (Int32.toNatClampNeg i) (-6)) (incFill hw h0 c1) (cnt2_lt c1 hm) (by rw [← ho_ic, lq_X5_fill_5_ic, if_neg c1]) (by rw [← ho_wm, lq_X5_fill_5_wm, if_neg c1]) (by rw [← ho_ga, lq_X5_fill_5_ga, if_neg c1]) (by rw [← ho_fe, lq_X5_fill_5_fe, if_neg c1]) (by rw [← ho_dr, lq_X5_fill_5_dr, if_neg c1]) (by rw [← ho_mn, lq_X5_fill_5_mn, if_neg c1]) (by rw [← ho_pr, lq_X5_fill_5_pr, if_neg c1]) (by rw [← ho_hg, lq_X5_fill_5_hg, if_neg c1]) (by rw [← ho_al, lq_X5_fill_5_al, if_neg c1]) (by rw [← ho_sd, lq_X5_fill_5_sd, if_neg c1]) ls H locs (lv_sub hl [1, 2, 3, 0] rfl) hP hD hS
  exact lp5 (fu 25) (24 * w) ic wm ga fe dr (Int.le_refl _) (by rw [fu_eq]; rcases hw with rfl | rfl <;> decide) (by rw [← ho_ic, q_X5_fill_ic]) (by rw [← ho_wm, q_X5_fill_wm]) (by rw [← ho_ga, q_X5_fill_ga]) (by rw [← ho_fe, q_X5_fill_fe]) (by rw [← ho_dr, q_X5_fill_dr]) (by rw [← ho_mn, q_X5_fill_mn]) (by rw [← ho_pr, q_X5_fill_pr]) (by rw [← ho_hg, q_X5_fill_hg]) (by rw [← ho_al, q_X5_fill_al]) (by rw [← ho_sd, q_X5_fill_sd]) ls H locs (lv_sub hl [1, 2, 3, 0] rfl) hP hD hS
def mg_X5_wetOf_24 (ic : Nat → Int32) (w : Int32) (i : Int32) : Int32 := (if (ic (Int32.toNatClampNeg ((24 * w) + i))) ≤ 0 then 0 else 1)
def lr_X5_wetOf_4 (Y : Nat → Int32) (ic : Nat → Int32) (w : Int32) : Nat → (Int32) → (Int32) → (Int32)
  | 0, _, _ => 0
  | n + 1, ct, i => (if (r_X5_vials Y) ≤ i then ct else (lr_X5_wetOf_4 Y ic w n (ct + (mg_X5_wetOf_24 ic w i)) (i + 1)))
noncomputable def r_X5_wetOf (Y : Nat → Int32) (ic : Nat → Int32) (w : Int32) : Int32 := (lr_X5_wetOf_4 Y ic w (fu ((Int32.toInt (r_X5_vials Y)).toNat + 1)) 0 0)
theorem ck_X5_wetOf : CK yX5_wetOf cX5_wetOf 4 (some .int) 1 := ⟨wd_3_61, wd_1_7, by decide, by decide, by decide +kernel⟩
set_option maxHeartbeats 4000000 in
set_option maxRecDepth 100000 in
theorem c_X5_wetOf (l : Launch) (D : va_G) (cI : ClassId) (a : Nat → Nat) (Y : Nat → Int32) (ic : Nat → Int32) (w : Int32) (hw : w = 0 ∨ w = 1) (hv : Int32.toInt (r_X5_vials Y) ≤ 24) : MI l D cI yX5_wetOf cX5_wetOf 4 (some .int) 1 20 [.ref (a 0), .int w] [yc a Y, ac cI (a 6) 48 ic] (r_X5_wetOf Y ic w) [yc a Y, ac cI (a 6) 48 ic] := by
  generalize hr : (r_X5_wetOf Y ic w) = r
  refine MI.mk (own := RX5) rfl (by decide) rfl (Nat.le_of_ble_eq_true rfl) ?_
  intro p e s m args below meth c A Q C hD hend H locs ls hP hS hl
  have hx := C.1.1
  have hb := C.1.2.1
  have hl : lv_has ls 4 [(0, .ref (a 0)), (1, .int w)] := hl
  refine lv_iconst (v := 0) hx hb dX5_wetOf_0 (by decide) ?_
  refine lv_istore_n (lv' := [(2, .int 0), (0, .ref (a 0)), (1, .int w)]) hx hb dX5_wetOf_1 rfl hl (by decide) rfl (fun ls hl => ?_)
  refine lv_iconst (v := 0) hx hb dX5_wetOf_2 (by decide) ?_
  refine lv_istore_n (lv' := [(3, .int 0), (2, .int 0), (0, .ref (a 0)), (1, .int w)]) hx hb dX5_wetOf_3 rfl hl (by decide) rfl (fun ls hl => ?_)
  have lp4 : ∀ (n : Nat) (ct : Int32) (i : Int32), 0 ≤ Int32.toInt i → (Int32.toInt (r_X5_vials Y) - Int32.toInt i).toNat < n → lr_X5_wetOf_4 Y ic w n ct i = r → ∀ (ls : Array Slot) (H : Heap) (locs : List Loc), lv_has ls 4 [(0, .ref (a 0)), (1, .int w), (2, .int ct), (3, .int i)] → va_P D vwCl [yc a Y, ac cI (a 6) 48 ic] H → va_D A [yc a Y, ac cI (a 6) 48 ic] → va_S A s.heap H locs → W p l e (RM 1 20) s m args below meth c H locs 0 0 Q (F0 m 4 ls []) := by
    clear hl hP hD hS
    intro n
    induction n with
    | zero =>
      intro ct i h0 hm
      exact absurd hm (Nat.not_lt_zero _)
    | succ n ih =>
      intro ct i h0 hm hr ls H locs hl hP hD hS
      refine lv_iload_n hx hb dX5_wetOf_4 rfl (lv_at hl 3 rfl) ?_
      refine lv_aload_n hx hb dX5_wetOf_5 rfl (lv_at hl 0 rfl) ?_
      refine go_i (ws' := [yc a Y, ac cI (a 6) 48 ic]) C (rn_V (As := []) (rest := [.int i]) C (c_X5_vials l D cI a Y H.size) ck_X5_vials wd_2_221 wd_0_5 wd_2_219 ⟨Nat.le_of_ble_eq_true rfl, Nat.le_of_ble_eq_true rfl⟩ ⟨Nat.le_refl _, Nat.le_refl _⟩ (ci := 5) (q0 := 0) rfl rfl hP hD hS [0] rfl rfl hl rfl (Nat.le_of_ble_eq_true rfl) dX5_wetOf_6) hP hD hS [0] rfl rfl rfl (fun H locs hP hD hS => ?_)
      refine lv_icmp_ge (tgt := 40) hx hb dX5_wetOf_9 (by decide) (fun c1 => ?_) (fun c1 => ?_)
      · refine lv_iload_n hx hb dX5_wetOf_40 rfl (lv_at hl 2 rfl) ?_
        exact hend _ _ _ _ _ (by rw [← hr, lr_X5_wetOf_4, if_pos c1]) hP hS dX5_wetOf_41
      · refine lv_iload_n hx hb dX5_wetOf_12 rfl (lv_at hl 2 rfl) ?_
        refine lv_aload_n hx hb dX5_wetOf_13 rfl (lv_at hl 0 rfl) ?_
        refine kget (v := .ref (a 6)) C hP igX5 rfl 6 (by decide) wd_2_152 0 rfl rfl dX5_wetOf_14 ?_
        refine lv_bipush (v := 24) hx hb dX5_wetOf_17 (by decide) ?_
        refine lv_iload_n hx hb dX5_wetOf_19 rfl (lv_at hl 1 rfl) ?_
        refine lv_imul hx hb dX5_wetOf_20 ?_
        refine lv_iload_n hx hb dX5_wetOf_21 rfl (lv_at hl 3 rfl) ?_
        refine lv_iadd hx hb dX5_wetOf_22 ?_
        refine kald C hP 1 rfl (in48 hw (inV h0 hv c1)) (k := (Int32.toNatClampNeg ((24 * w) + i))) rfl dX5_wetOf_23 ?_
        have j32 : ∀ (ls : Array Slot) (H : Heap) (locs : List Loc), lv_has ls 4 [(0, .ref (a 0)), (1, .int w), (2, .int ct), (3, .int i)] → va_P D vwCl [yc a Y, ac cI (a 6) 48 ic] H → va_D A [yc a Y, ac cI (a 6) 48 ic] → va_S A s.heap H locs → W p l e (RM 1 20) s m args below meth c H locs 0 0 Q (F0 m 32 ls [.int (mg_X5_wetOf_24 ic w i), .int ct]) := by
          intro ls H locs hl hP hD hS
          refine lv_iadd hx hb dX5_wetOf_32 ?_
          refine lv_istore_n (lv' := [(2, .int (ct + (mg_X5_wetOf_24 ic w i))), (0, .ref (a 0)), (1, .int w), (3, .int i)]) hx hb dX5_wetOf_33 rfl hl (by decide) rfl (fun ls hl => ?_)
          refine lv_iinc (v := (i + 1)) (lv' := [(3, .int (i + 1)), (2, .int (ct + (mg_X5_wetOf_24 ic w i))), (0, .ref (a 0)), (1, .int w)]) hx hb dX5_wetOf_34 hl (k := 3) rfl rfl (by decide) rfl (fun ls hl => ?_)
          refine lv_goto (tgt := 4) hx hb dX5_wetOf_37 (by decide) ?_
          exact ih (ct + (mg_X5_wetOf_24 ic w i)) (i + 1) (inc0 h0 c1) (cnt2_lt c1 hm) (by rw [← hr, lr_X5_wetOf_4, if_neg c1]) ls H locs (lv_sub hl [2, 3, 1, 0] rfl) hP hD hS
        refine lv_if_le (tgt := 31) hx hb dX5_wetOf_24 (by decide) (fun c2 => ?_) (fun c2 => ?_)
        · refine lv_iconst (v := 0) hx hb dX5_wetOf_31 (by decide) ?_
          have e_mg_X5_wetOf_24 : (mg_X5_wetOf_24 ic w i) = 0 := by rw [mg_X5_wetOf_24, if_pos c2]
          have jj := j32
          rw [e_mg_X5_wetOf_24] at jj
          exact jj ls H locs (lv_sub hl [0, 1, 2, 3] rfl) hP hD hS
        · refine lv_iconst (v := 1) hx hb dX5_wetOf_27 (by decide) ?_
          refine lv_goto (tgt := 32) hx hb dX5_wetOf_28 (by decide) ?_
          have e_mg_X5_wetOf_24 : (mg_X5_wetOf_24 ic w i) = 1 := by rw [mg_X5_wetOf_24, if_neg c2]
          have jj := j32
          rw [e_mg_X5_wetOf_24] at jj
          exact jj ls H locs (lv_sub hl [0, 1, 2, 3] rfl) hP hD hS
  exact lp4 (fu ((Int32.toInt (r_X5_vials Y)).toNat + 1)) 0 0 (by decide) (by rw [fu_eq]; have e0 : (0 : Int32).toInt = 0 := rfl; omega) (by rw [← hr, r_X5_wetOf]) ls H locs (lv_sub hl [2, 3, 1, 0] rfl) hP hD hS
theorem inB {b : Int32} (h : b.toInt < 24) (c : ¬ b < 0) : vp_in b 24 := by
  have c1 : ¬ b.toInt < 0 := fun z => c ((tI_lt b 0).mpr z)
  exact vp_in_iff.mpr (by omega)
theorem ltB {v i : Int32} (h0 : 0 ≤ i.toInt) (hv : v.toInt ≤ 24) (c : ¬ v ≤ i) : i.toInt < 24 := (vp_in_iff.mp (inV h0 hv c)).2
def lr_X5_firstOf_5 (Y : Nat → Int32) (fe : Nat → Int32) (w : Int32) : Nat → (Int32) → (Int32) → (Int32)
  | 0, _, _ => 0
  | n + 1, bs, i => (if (r_X5_vials Y) ≤ i then bs else (if (fe (Int32.toNatClampNeg ((24 * w) + i))) < 0 then (lr_X5_firstOf_5 Y fe w n bs (i + 1)) else (if bs < 0 then (lr_X5_firstOf_5 Y fe w n i (i + 1)) else (if (fe (Int32.toNatClampNeg ((24 * w) + bs))) ≤ (fe (Int32.toNatClampNeg ((24 * w) + i))) then (lr_X5_firstOf_5 Y fe w n bs (i + 1)) else (lr_X5_firstOf_5 Y fe w n i (i + 1))))))
noncomputable def r_X5_firstOf (Y : Nat → Int32) (fe : Nat → Int32) (w : Int32) : Int32 := (lr_X5_firstOf_5 Y fe w (fu ((Int32.toInt (r_X5_vials Y)).toNat + 1)) (-6) 0)
theorem ck_X5_firstOf : CK yX5_firstOf cX5_firstOf 5 (some .int) 1 := ⟨wd_3_95, wd_1_7, by decide, by decide, by decide +kernel⟩
set_option maxHeartbeats 4000000 in
set_option maxRecDepth 100000 in
theorem c_X5_firstOf (l : Launch) (D : va_G) (cI : ClassId) (a : Nat → Nat) (Y : Nat → Int32) (fe : Nat → Int32) (w : Int32) (hw : w = 0 ∨ w = 1) (hv : Int32.toInt (r_X5_vials Y) ≤ 24) : MI l D cI yX5_firstOf cX5_firstOf 5 (some .int) 1 20 [.ref (a 0), .int w] [yc a Y, ac cI (a 9) 48 fe] (r_X5_firstOf Y fe w) [yc a Y, ac cI (a 9) 48 fe] := by
  generalize hr : (r_X5_firstOf Y fe w) = r
  refine MI.mk (own := RX5) rfl (by decide) rfl (Nat.le_of_ble_eq_true rfl) ?_
  intro p e s m args below meth c A Q C hD hend H locs ls hP hS hl
  have hx := C.1.1
  have hb := C.1.2.1
  have hl : lv_has ls 5 [(0, .ref (a 0)), (1, .int w)] := hl
  refine lv_bipush (v := (-6)) hx hb dX5_firstOf_0 (by decide) ?_
  refine lv_istore_n (lv' := [(2, .int (-6)), (0, .ref (a 0)), (1, .int w)]) hx hb dX5_firstOf_2 rfl hl (by decide) rfl (fun ls hl => ?_)
  refine lv_iconst (v := 0) hx hb dX5_firstOf_3 (by decide) ?_
  refine lv_istore_n (lv' := [(3, .int 0), (2, .int (-6)), (0, .ref (a 0)), (1, .int w)]) hx hb dX5_firstOf_4 rfl hl (by decide) rfl (fun ls hl => ?_)
  have lp5 : ∀ (n : Nat) (bs : Int32) (i : Int32), 0 ≤ Int32.toInt i → Int32.toInt bs < 24 → (Int32.toInt (r_X5_vials Y) - Int32.toInt i).toNat < n → lr_X5_firstOf_5 Y fe w n bs i = r → ∀ (ls : Array Slot) (H : Heap) (locs : List Loc), lv_has ls 5 [(0, .ref (a 0)), (1, .int w), (2, .int bs), (3, .int i)] → va_P D vwCl [yc a Y, ac cI (a 9) 48 fe] H → va_D A [yc a Y, ac cI (a 9) 48 fe] → va_S A s.heap H locs → W p l e (RM 1 20) s m args below meth c H locs 0 0 Q (F0 m 5 ls []) := by
    clear hl hP hD hS
    intro n
    induction n with
    | zero =>
      intro bs i h0 hb2 hm
      exact absurd hm (Nat.not_lt_zero _)
    | succ n ih =>
      intro bs i h0 hb2 hm hr ls H locs hl hP hD hS
      refine lv_iload_n hx hb dX5_firstOf_5 rfl (lv_at hl 3 rfl) ?_
      refine lv_aload_n hx hb dX5_firstOf_6 rfl (lv_at hl 0 rfl) ?_
      refine go_i (ws' := [yc a Y, ac cI (a 9) 48 fe]) C (rn_V (As := []) (rest := [.int i]) C (c_X5_vials l D cI a Y H.size) ck_X5_vials wd_2_221 wd_0_5 wd_2_219 ⟨Nat.le_of_ble_eq_true rfl, Nat.le_of_ble_eq_true rfl⟩ ⟨Nat.le_refl _, Nat.le_refl _⟩ (ci := 5) (q0 := 0) rfl rfl hP hD hS [0] rfl rfl hl rfl (Nat.le_of_ble_eq_true rfl) dX5_firstOf_7) hP hD hS [0] rfl rfl rfl (fun H locs hP hD hS => ?_)
      refine lv_icmp_ge (tgt := 64) hx hb dX5_firstOf_10 (by decide) (fun c1 => ?_) (fun c1 => ?_)
      · refine lv_iload_n hx hb dX5_firstOf_64 rfl (lv_at hl 2 rfl) ?_
        exact hend _ _ _ _ _ (by rw [← hr, lr_X5_firstOf_5, if_pos c1]) hP hS dX5_firstOf_65
      · refine lv_bipush (v := 24) hx hb dX5_firstOf_13 (by decide) ?_
        refine lv_iload_n hx hb dX5_firstOf_15 rfl (lv_at hl 1 rfl) ?_
        refine lv_imul hx hb dX5_firstOf_16 ?_
        refine lv_iload_n hx hb dX5_firstOf_17 rfl (lv_at hl 3 rfl) ?_
        refine lv_iadd hx hb dX5_firstOf_18 ?_
        refine lv_istore (lv' := [(4, .int ((24 * w) + i)), (0, .ref (a 0)), (1, .int w), (2, .int bs), (3, .int i)]) hx hb dX5_firstOf_19 hl (by decide) rfl (fun ls hl => ?_)
        refine lv_aload_n hx hb dX5_firstOf_21 rfl (lv_at hl 1 rfl) ?_
        refine kget (v := .ref (a 9)) C hP igX5 rfl 9 (by decide) wd_2_155 0 rfl rfl dX5_firstOf_22 ?_
        refine lv_iload hx hb dX5_firstOf_25 (lv_at hl 0 rfl) ?_
        refine kald C hP 1 rfl (in48 hw (inV h0 hv c1)) (k := (Int32.toNatClampNeg ((24 * w) + i))) rfl dX5_firstOf_27 ?_
        refine lv_if_lt (tgt := 58) hx hb dX5_firstOf_28 (by decide) (fun c2 => ?_) (fun c2 => ?_)
        · refine lv_iinc (v := (i + 1)) (lv' := [(3, .int (i + 1)), (4, .int ((24 * w) + i)), (0, .ref (a 0)), (1, .int w), (2, .int bs)]) hx hb dX5_firstOf_58 hl (k := 4) rfl rfl (by decide) rfl (fun ls hl => ?_)
          refine lv_goto (tgt := 5) hx hb dX5_firstOf_61 (by decide) ?_
          exact ih bs (i + 1) (inc0 h0 c1) hb2 (cnt2_lt c1 hm) (by rw [← hr, lr_X5_firstOf_5, if_neg c1, if_pos c2]) ls H locs (lv_sub hl [2, 3, 4, 0] rfl) hP hD hS
        · refine lv_iload_n hx hb dX5_firstOf_31 rfl (lv_at hl 3 rfl) ?_
          refine lv_if_lt (tgt := 56) hx hb dX5_firstOf_32 (by decide) (fun c3 => ?_) (fun c3 => ?_)
          · refine lv_iload_n hx hb dX5_firstOf_56 rfl (lv_at hl 4 rfl) ?_
            refine lv_istore_n (lv' := [(2, .int i), (4, .int ((24 * w) + i)), (0, .ref (a 0)), (1, .int w), (3, .int i)]) hx hb dX5_firstOf_57 rfl hl (by decide) rfl (fun ls hl => ?_)
            refine lv_iinc (v := (i + 1)) (lv' := [(3, .int (i + 1)), (2, .int i), (4, .int ((24 * w) + i)), (0, .ref (a 0)), (1, .int w)]) hx hb dX5_firstOf_58 hl (k := 4) rfl rfl (by decide) rfl (fun ls hl => ?_)
            refine lv_goto (tgt := 5) hx hb dX5_firstOf_61 (by decide) ?_
            exact ih i (i + 1) (inc0 h0 c1) (ltB h0 hv c1) (cnt2_lt c1 hm) (by rw [← hr, lr_X5_firstOf_5, if_neg c1, if_neg c2, if_pos c3]) ls H locs (lv_sub hl [3, 4, 1, 0] rfl) hP hD hS
          · refine lv_aload_n hx hb dX5_firstOf_35 rfl (lv_at hl 1 rfl) ?_
            refine kget (v := .ref (a 9)) C hP igX5 rfl 9 (by decide) wd_2_155 0 rfl rfl dX5_firstOf_36 ?_
            refine lv_iload hx hb dX5_firstOf_39 (lv_at hl 0 rfl) ?_
            refine kald C hP 1 rfl (in48 hw (inV h0 hv c1)) (k := (Int32.toNatClampNeg ((24 * w) + i))) rfl dX5_firstOf_41 ?_
            refine lv_aload_n hx hb dX5_firstOf_42 rfl (lv_at hl 1 rfl) ?_
            refine kget (v := .ref (a 9)) C hP igX5 rfl 9 (by decide) wd_2_155 0 rfl rfl dX5_firstOf_43 ?_
            refine lv_bipush (v := 24) hx hb dX5_firstOf_46 (by decide) ?_
            refine lv_iload_n hx hb dX5_firstOf_48 rfl (lv_at hl 2 rfl) ?_
            refine lv_imul hx hb dX5_firstOf_49 ?_
            refine lv_iload_n hx hb dX5_firstOf_50 rfl (lv_at hl 3 rfl) ?_
            refine lv_iadd hx hb dX5_firstOf_51 ?_
            refine kald C hP 1 rfl (in48 hw (inB hb2 c3)) (k := (Int32.toNatClampNeg ((24 * w) + bs))) rfl dX5_firstOf_52 ?_
            refine lv_icmp_ge (tgt := 58) hx hb dX5_firstOf_53 (by decide) (fun c4 => ?_) (fun c4 => ?_)
            · refine lv_iinc (v := (i + 1)) (lv' := [(3, .int (i + 1)), (4, .int ((24 * w) + i)), (0, .ref (a 0)), (1, .int w), (2, .int bs)]) hx hb dX5_firstOf_58 hl (k := 4) rfl rfl (by decide) rfl (fun ls hl => ?_)
              refine lv_goto (tgt := 5) hx hb dX5_firstOf_61 (by decide) ?_
              exact ih bs (i + 1) (inc0 h0 c1) hb2 (cnt2_lt c1 hm) (by rw [← hr, lr_X5_firstOf_5, if_neg c1, if_neg c2, if_neg c3, if_pos c4]) ls H locs (lv_sub hl [2, 3, 4, 0] rfl) hP hD hS
            · refine lv_iload_n hx hb dX5_firstOf_56 rfl (lv_at hl 4 rfl) ?_
              refine lv_istore_n (lv' := [(2, .int i), (4, .int ((24 * w) + i)), (0, .ref (a 0)), (1, .int w), (3, .int i)]) hx hb dX5_firstOf_57 rfl hl (by decide) rfl (fun ls hl => ?_)
              refine lv_iinc (v := (i + 1)) (lv' := [(3, .int (i + 1)), (2, .int i), (4, .int ((24 * w) + i)), (0, .ref (a 0)), (1, .int w)]) hx hb dX5_firstOf_58 hl (k := 4) rfl rfl (by decide) rfl (fun ls hl => ?_)
              refine lv_goto (tgt := 5) hx hb dX5_firstOf_61 (by decide) ?_
              exact ih i (i + 1) (inc0 h0 c1) (ltB h0 hv c1) (cnt2_lt c1 hm) (by rw [← hr, lr_X5_firstOf_5, if_neg c1, if_neg c2, if_neg c3, if_neg c4]) ls H locs (lv_sub hl [3, 4, 1, 0] rfl) hP hD hS
  exact lp5 (fu ((Int32.toInt (r_X5_vials Y)).toNat + 1)) (-6) 0 (by decide) (by decide) (by rw [fu_eq]; have e0 : (0 : Int32).toInt = 0 := rfl; omega) (by rw [← hr, r_X5_firstOf]) ls H locs (lv_sub hl [2, 3, 1, 0] rfl) hP hD hS
end
section
def mg_X5_goOn_319 (ru : Nat → Int32) (pr : Nat → Int32) (w : Int32) (sm : Int32) : Int32 := (if ((pr (Int32.toNatClampNeg w)) + ((sm - (ru 7)) / (ru 8))) ≤ 20000 then ((pr (Int32.toNatClampNeg w)) + ((sm - (ru 7)) / (ru 8))) else 20000)
def mg_X5_goOn_288 (ru : Nat → Int32) (pr : Nat → Int32) (w : Int32) (sm : Int32) : Int32 := (if sm ≤ (ru 7) then ((pr (Int32.toNatClampNeg w)) - (ru 9)) else (mg_X5_goOn_319 ru pr w sm))
def mg_X5_goOn_355 (ru : Nat → Int32) (pr : Nat → Int32) (w : Int32) (se : Int32) (sm : Int32) : Int32 := (if se ≤ (mg_X5_goOn_288 ru pr w sm) then (mg_X5_goOn_288 ru pr w sm) else se)
def mg_X5_goOn_382 (ru : Nat → Int32) (pr : Nat → Int32) (hg : Nat → Int32) (w : Int32) (se : Int32) (sm : Int32) : Int32 := (if ((upd pr (Int32.toNatClampNeg w) (mg_X5_goOn_355 ru pr w se sm)) (Int32.toNatClampNeg w)) ≤ (hg (Int32.toNatClampNeg w)) then (hg (Int32.toNatClampNeg w)) else ((upd pr (Int32.toNatClampNeg w) (mg_X5_goOn_355 ru pr w se sm)) (Int32.toNatClampNeg w)))
noncomputable def mg_X5_goOn_114 (Y : Nat → Int32) (ru : Nat → Int32) (pr : Nat → Int32) (w : Int32) (sh : Int32) (i : Int32) (ic : Nat → Int32) : Int32 := (if (ic (Int32.toNatClampNeg ((24 * w) + i))) ≤ (r_X5_steamAt ru (r_X5_warmthOf Y ru ic pr w i sh) ((100 * ((ru 0) - (ic (Int32.toNatClampNeg ((24 * w) + i))))) / (ru 0)) (pr (Int32.toNatClampNeg w))) then (ic (Int32.toNatClampNeg ((24 * w) + i))) else (r_X5_steamAt ru (r_X5_warmthOf Y ru ic pr w i sh) ((100 * ((ru 0) - (ic (Int32.toNatClampNeg ((24 * w) + i))))) / (ru 0)) (pr (Int32.toNatClampNeg w))))
noncomputable def mg_X5_goOn_183 (Y : Nat → Int32) (ru : Nat → Int32) (mn : Nat → Int32) (pr : Nat → Int32) (w : Int32) (sh : Int32) (i : Int32) (ic : Nat → Int32) (fe : Nat → Int32) : Int32 := (if (r_X5_warmthOf Y ru ic pr w i sh) ≤ (ru 6) then (fe (Int32.toNatClampNeg ((24 * w) + i))) else (if 0 ≤ (fe (Int32.toNatClampNeg ((24 * w) + i))) then (fe (Int32.toNatClampNeg ((24 * w) + i))) else (mn (Int32.toNatClampNeg w))))
noncomputable def mg_X5_goOn_226 (Y : Nat → Int32) (ru : Nat → Int32) (mn : Nat → Int32) (pr : Nat → Int32) (w : Int32) (sh : Int32) (i : Int32) (ic : Nat → Int32) (dr : Nat → Int32) : Int32 := (if ((upd ic (Int32.toNatClampNeg ((24 * w) + i)) ((ic (Int32.toNatClampNeg ((24 * w) + i))) - (mg_X5_goOn_114 Y ru pr w sh i ic))) (Int32.toNatClampNeg ((24 * w) + i))) = 0 then (mn (Int32.toNatClampNeg w)) else (dr (Int32.toNatClampNeg ((24 * w) + i))))
noncomputable def lq_X5_goOn_6_ic (Y : Nat → Int32) (ru : Nat → Int32) (mn : Nat → Int32) (pr : Nat → Int32) (hg : Nat → Int32) (al : Nat → Int32) (sd : Nat → Int32) (w : Int32) (sh : Int32) (se : Int32) : Nat → (Int32) → (Int32) → (Nat → Int32) → (Nat → Int32) → (Nat → Int32) → (Nat → Int32) → (Nat → Int32) → (Nat → Int32)
  | 0, _, _, _, _, _, _, _ => fun _ => 0
  | n + 1, sm, i, ic, wm, ga, fe, dr => (if (r_X5_vials Y) ≤ i then ic else (if (ic (Int32.toNatClampNeg ((24 * w) + i))) = 0 then (lq_X5_goOn_6_ic Y ru mn pr hg al sd w sh se n sm (i + 1) ic (upd wm (Int32.toNatClampNeg ((24 * w) + i)) sh) (upd ga (Int32.toNatClampNeg ((24 * w) + i)) 0) fe dr) else (lq_X5_goOn_6_ic Y ru mn pr hg al sd w sh se n (sm + (mg_X5_goOn_114 Y ru pr w sh i ic)) (i + 1) (upd ic (Int32.toNatClampNeg ((24 * w) + i)) ((ic (Int32.toNatClampNeg ((24 * w) + i))) - (mg_X5_goOn_114 Y ru pr w sh i ic))) (upd wm (Int32.toNatClampNeg ((24 * w) + i)) (r_X5_warmthOf Y ru ic pr w i sh)) (upd ga (Int32.toNatClampNeg ((24 * w) + i)) (mg_X5_goOn_114 Y ru pr w sh i ic)) (upd fe (Int32.toNatClampNeg ((24 * w) + i)) (mg_X5_goOn_183 Y ru mn pr w sh i ic fe)) (upd dr (Int32.toNatClampNeg ((24 * w) + i)) (mg_X5_goOn_226 Y ru mn pr w sh i ic dr)))))
noncomputable def lq_X5_goOn_6_wm (Y : Nat → Int32) (ru : Nat → Int32) (mn : Nat → Int32) (pr : Nat → Int32) (hg : Nat → Int32) (al : Nat → Int32) (sd : Nat → Int32) (w : Int32) (sh : Int32) (se : Int32) : Nat → (Int32) → (Int32) → (Nat → Int32) → (Nat → Int32) → (Nat → Int32) → (Nat → Int32) → (Nat → Int32) → (Nat → Int32)
  | 0, _, _, _, _, _, _, _ => fun _ => 0
  | n + 1, sm, i, ic, wm, ga, fe, dr => (if (r_X5_vials Y) ≤ i then wm else (if (ic (Int32.toNatClampNeg ((24 * w) + i))) = 0 then (lq_X5_goOn_6_wm Y ru mn pr hg al sd w sh se n sm (i + 1) ic (upd wm (Int32.toNatClampNeg ((24 * w) + i)) sh) (upd ga (Int32.toNatClampNeg ((24 * w) + i)) 0) fe dr) else (lq_X5_goOn_6_wm Y ru mn pr hg al sd w sh se n (sm + (mg_X5_goOn_114 Y ru pr w sh i ic)) (i + 1) (upd ic (Int32.toNatClampNeg ((24 * w) + i)) ((ic (Int32.toNatClampNeg ((24 * w) + i))) - (mg_X5_goOn_114 Y ru pr w sh i ic))) (upd wm (Int32.toNatClampNeg ((24 * w) + i)) (r_X5_warmthOf Y ru ic pr w i sh)) (upd ga (Int32.toNatClampNeg ((24 * w) + i)) (mg_X5_goOn_114 Y ru pr w sh i ic)) (upd fe (Int32.toNatClampNeg ((24 * w) + i)) (mg_X5_goOn_183 Y ru mn pr w sh i ic fe)) (upd dr (Int32.toNatClampNeg ((24 * w) + i)) (mg_X5_goOn_226 Y ru mn pr w sh i ic dr)))))
noncomputable def lq_X5_goOn_6_ga (Y : Nat → Int32) (ru : Nat → Int32) (mn : Nat → Int32) (pr : Nat → Int32) (hg : Nat → Int32) (al : Nat → Int32) (sd : Nat → Int32) (w : Int32) (sh : Int32) (se : Int32) : Nat → (Int32) → (Int32) → (Nat → Int32) → (Nat → Int32) → (Nat → Int32) → (Nat → Int32) → (Nat → Int32) → (Nat → Int32)
  | 0, _, _, _, _, _, _, _ => fun _ => 0
  | n + 1, sm, i, ic, wm, ga, fe, dr => (if (r_X5_vials Y) ≤ i then ga else (if (ic (Int32.toNatClampNeg ((24 * w) + i))) = 0 then (lq_X5_goOn_6_ga Y ru mn pr hg al sd w sh se n sm (i + 1) ic (upd wm (Int32.toNatClampNeg ((24 * w) + i)) sh) (upd ga (Int32.toNatClampNeg ((24 * w) + i)) 0) fe dr) else (lq_X5_goOn_6_ga Y ru mn pr hg al sd w sh se n (sm + (mg_X5_goOn_114 Y ru pr w sh i ic)) (i + 1) (upd ic (Int32.toNatClampNeg ((24 * w) + i)) ((ic (Int32.toNatClampNeg ((24 * w) + i))) - (mg_X5_goOn_114 Y ru pr w sh i ic))) (upd wm (Int32.toNatClampNeg ((24 * w) + i)) (r_X5_warmthOf Y ru ic pr w i sh)) (upd ga (Int32.toNatClampNeg ((24 * w) + i)) (mg_X5_goOn_114 Y ru pr w sh i ic)) (upd fe (Int32.toNatClampNeg ((24 * w) + i)) (mg_X5_goOn_183 Y ru mn pr w sh i ic fe)) (upd dr (Int32.toNatClampNeg ((24 * w) + i)) (mg_X5_goOn_226 Y ru mn pr w sh i ic dr)))))
noncomputable def lq_X5_goOn_6_fe (Y : Nat → Int32) (ru : Nat → Int32) (mn : Nat → Int32) (pr : Nat → Int32) (hg : Nat → Int32) (al : Nat → Int32) (sd : Nat → Int32) (w : Int32) (sh : Int32) (se : Int32) : Nat → (Int32) → (Int32) → (Nat → Int32) → (Nat → Int32) → (Nat → Int32) → (Nat → Int32) → (Nat → Int32) → (Nat → Int32)
  | 0, _, _, _, _, _, _, _ => fun _ => 0
  | n + 1, sm, i, ic, wm, ga, fe, dr => (if (r_X5_vials Y) ≤ i then fe else (if (ic (Int32.toNatClampNeg ((24 * w) + i))) = 0 then (lq_X5_goOn_6_fe Y ru mn pr hg al sd w sh se n sm (i + 1) ic (upd wm (Int32.toNatClampNeg ((24 * w) + i)) sh) (upd ga (Int32.toNatClampNeg ((24 * w) + i)) 0) fe dr) else (lq_X5_goOn_6_fe Y ru mn pr hg al sd w sh se n (sm + (mg_X5_goOn_114 Y ru pr w sh i ic)) (i + 1) (upd ic (Int32.toNatClampNeg ((24 * w) + i)) ((ic (Int32.toNatClampNeg ((24 * w) + i))) - (mg_X5_goOn_114 Y ru pr w sh i ic))) (upd wm (Int32.toNatClampNeg ((24 * w) + i)) (r_X5_warmthOf Y ru ic pr w i sh)) (upd ga (Int32.toNatClampNeg ((24 * w) + i)) (mg_X5_goOn_114 Y ru pr w sh i ic)) (upd fe (Int32.toNatClampNeg ((24 * w) + i)) (mg_X5_goOn_183 Y ru mn pr w sh i ic fe)) (upd dr (Int32.toNatClampNeg ((24 * w) + i)) (mg_X5_goOn_226 Y ru mn pr w sh i ic dr)))))
noncomputable def lq_X5_goOn_6_dr (Y : Nat → Int32) (ru : Nat → Int32) (mn : Nat → Int32) (pr : Nat → Int32) (hg : Nat → Int32) (al : Nat → Int32) (sd : Nat → Int32) (w : Int32) (sh : Int32) (se : Int32) : Nat → (Int32) → (Int32) → (Nat → Int32) → (Nat → Int32) → (Nat → Int32) → (Nat → Int32) → (Nat → Int32) → (Nat → Int32)
  | 0, _, _, _, _, _, _, _ => fun _ => 0
  | n + 1, sm, i, ic, wm, ga, fe, dr => (if (r_X5_vials Y) ≤ i then dr else (if (ic (Int32.toNatClampNeg ((24 * w) + i))) = 0 then (lq_X5_goOn_6_dr Y ru mn pr hg al sd w sh se n sm (i + 1) ic (upd wm (Int32.toNatClampNeg ((24 * w) + i)) sh) (upd ga (Int32.toNatClampNeg ((24 * w) + i)) 0) fe dr) else (lq_X5_goOn_6_dr Y ru mn pr hg al sd w sh se n (sm + (mg_X5_goOn_114 Y ru pr w sh i ic)) (i + 1) (upd ic (Int32.toNatClampNeg ((24 * w) + i)) ((ic (Int32.toNatClampNeg ((24 * w) + i))) - (mg_X5_goOn_114 Y ru pr w sh i ic))) (upd wm (Int32.toNatClampNeg ((24 * w) + i)) (r_X5_warmthOf Y ru ic pr w i sh)) (upd ga (Int32.toNatClampNeg ((24 * w) + i)) (mg_X5_goOn_114 Y ru pr w sh i ic)) (upd fe (Int32.toNatClampNeg ((24 * w) + i)) (mg_X5_goOn_183 Y ru mn pr w sh i ic fe)) (upd dr (Int32.toNatClampNeg ((24 * w) + i)) (mg_X5_goOn_226 Y ru mn pr w sh i ic dr)))))
noncomputable def lq_X5_goOn_6_mn (Y : Nat → Int32) (ru : Nat → Int32) (mn : Nat → Int32) (pr : Nat → Int32) (hg : Nat → Int32) (al : Nat → Int32) (sd : Nat → Int32) (w : Int32) (sh : Int32) (se : Int32) : Nat → (Int32) → (Int32) → (Nat → Int32) → (Nat → Int32) → (Nat → Int32) → (Nat → Int32) → (Nat → Int32) → (Nat → Int32)
  | 0, _, _, _, _, _, _, _ => fun _ => 0
  | n + 1, sm, i, ic, wm, ga, fe, dr => (if (r_X5_vials Y) ≤ i then (upd mn (Int32.toNatClampNeg w) ((mn (Int32.toNatClampNeg w)) + 1)) else (if (ic (Int32.toNatClampNeg ((24 * w) + i))) = 0 then (lq_X5_goOn_6_mn Y ru mn pr hg al sd w sh se n sm (i + 1) ic (upd wm (Int32.toNatClampNeg ((24 * w) + i)) sh) (upd ga (Int32.toNatClampNeg ((24 * w) + i)) 0) fe dr) else (lq_X5_goOn_6_mn Y ru mn pr hg al sd w sh se n (sm + (mg_X5_goOn_114 Y ru pr w sh i ic)) (i + 1) (upd ic (Int32.toNatClampNeg ((24 * w) + i)) ((ic (Int32.toNatClampNeg ((24 * w) + i))) - (mg_X5_goOn_114 Y ru pr w sh i ic))) (upd wm (Int32.toNatClampNeg ((24 * w) + i)) (r_X5_warmthOf Y ru ic pr w i sh)) (upd ga (Int32.toNatClampNeg ((24 * w) + i)) (mg_X5_goOn_114 Y ru pr w sh i ic)) (upd fe (Int32.toNatClampNeg ((24 * w) + i)) (mg_X5_goOn_183 Y ru mn pr w sh i ic fe)) (upd dr (Int32.toNatClampNeg ((24 * w) + i)) (mg_X5_goOn_226 Y ru mn pr w sh i ic dr)))))
noncomputable def lq_X5_goOn_6_pr (Y : Nat → Int32) (ru : Nat → Int32) (mn : Nat → Int32) (pr : Nat → Int32) (hg : Nat → Int32) (al : Nat → Int32) (sd : Nat → Int32) (w : Int32) (sh : Int32) (se : Int32) : Nat → (Int32) → (Int32) → (Nat → Int32) → (Nat → Int32) → (Nat → Int32) → (Nat → Int32) → (Nat → Int32) → (Nat → Int32)
  | 0, _, _, _, _, _, _, _ => fun _ => 0
  | n + 1, sm, i, ic, wm, ga, fe, dr => (if (r_X5_vials Y) ≤ i then (upd pr (Int32.toNatClampNeg w) (mg_X5_goOn_355 ru pr w se sm)) else (if (ic (Int32.toNatClampNeg ((24 * w) + i))) = 0 then (lq_X5_goOn_6_pr Y ru mn pr hg al sd w sh se n sm (i + 1) ic (upd wm (Int32.toNatClampNeg ((24 * w) + i)) sh) (upd ga (Int32.toNatClampNeg ((24 * w) + i)) 0) fe dr) else (lq_X5_goOn_6_pr Y ru mn pr hg al sd w sh se n (sm + (mg_X5_goOn_114 Y ru pr w sh i ic)) (i + 1) (upd ic (Int32.toNatClampNeg ((24 * w) + i)) ((ic (Int32.toNatClampNeg ((24 * w) + i))) - (mg_X5_goOn_114 Y ru pr w sh i ic))) (upd wm (Int32.toNatClampNeg ((24 * w) + i)) (r_X5_warmthOf Y ru ic pr w i sh)) (upd ga (Int32.toNatClampNeg ((24 * w) + i)) (mg_X5_goOn_114 Y ru pr w sh i ic)) (upd fe (Int32.toNatClampNeg ((24 * w) + i)) (mg_X5_goOn_183 Y ru mn pr w sh i ic fe)) (upd dr (Int32.toNatClampNeg ((24 * w) + i)) (mg_X5_goOn_226 Y ru mn pr w sh i ic dr)))))
noncomputable def lq_X5_goOn_6_hg (Y : Nat → Int32) (ru : Nat → Int32) (mn : Nat → Int32) (pr : Nat → Int32) (hg : Nat → Int32) (al : Nat → Int32) (sd : Nat → Int32) (w : Int32) (sh : Int32) (se : Int32) : Nat → (Int32) → (Int32) → (Nat → Int32) → (Nat → Int32) → (Nat → Int32) → (Nat → Int32) → (Nat → Int32) → (Nat → Int32)
  | 0, _, _, _, _, _, _, _ => fun _ => 0
  | n + 1, sm, i, ic, wm, ga, fe, dr => (if (r_X5_vials Y) ≤ i then (upd hg (Int32.toNatClampNeg w) (mg_X5_goOn_382 ru pr hg w se sm)) else (if (ic (Int32.toNatClampNeg ((24 * w) + i))) = 0 then (lq_X5_goOn_6_hg Y ru mn pr hg al sd w sh se n sm (i + 1) ic (upd wm (Int32.toNatClampNeg ((24 * w) + i)) sh) (upd ga (Int32.toNatClampNeg ((24 * w) + i)) 0) fe dr) else (lq_X5_goOn_6_hg Y ru mn pr hg al sd w sh se n (sm + (mg_X5_goOn_114 Y ru pr w sh i ic)) (i + 1) (upd ic (Int32.toNatClampNeg ((24 * w) + i)) ((ic (Int32.toNatClampNeg ((24 * w) + i))) - (mg_X5_goOn_114 Y ru pr w sh i ic))) (upd wm (Int32.toNatClampNeg ((24 * w) + i)) (r_X5_warmthOf Y ru ic pr w i sh)) (upd ga (Int32.toNatClampNeg ((24 * w) + i)) (mg_X5_goOn_114 Y ru pr w sh i ic)) (upd fe (Int32.toNatClampNeg ((24 * w) + i)) (mg_X5_goOn_183 Y ru mn pr w sh i ic fe)) (upd dr (Int32.toNatClampNeg ((24 * w) + i)) (mg_X5_goOn_226 Y ru mn pr w sh i ic dr)))))
noncomputable def lq_X5_goOn_6_al (Y : Nat → Int32) (ru : Nat → Int32) (mn : Nat → Int32) (pr : Nat → Int32) (hg : Nat → Int32) (al : Nat → Int32) (sd : Nat → Int32) (w : Int32) (sh : Int32) (se : Int32) : Nat → (Int32) → (Int32) → (Nat → Int32) → (Nat → Int32) → (Nat → Int32) → (Nat → Int32) → (Nat → Int32) → (Nat → Int32)
  | 0, _, _, _, _, _, _, _ => fun _ => 0
  | n + 1, sm, i, ic, wm, ga, fe, dr => (if (r_X5_vials Y) ≤ i then (upd al (Int32.toNatClampNeg w) sm) else (if (ic (Int32.toNatClampNeg ((24 * w) + i))) = 0 then (lq_X5_goOn_6_al Y ru mn pr hg al sd w sh se n sm (i + 1) ic (upd wm (Int32.toNatClampNeg ((24 * w) + i)) sh) (upd ga (Int32.toNatClampNeg ((24 * w) + i)) 0) fe dr) else (lq_X5_goOn_6_al Y ru mn pr hg al sd w sh se n (sm + (mg_X5_goOn_114 Y ru pr w sh i ic)) (i + 1) (upd ic (Int32.toNatClampNeg ((24 * w) + i)) ((ic (Int32.toNatClampNeg ((24 * w) + i))) - (mg_X5_goOn_114 Y ru pr w sh i ic))) (upd wm (Int32.toNatClampNeg ((24 * w) + i)) (r_X5_warmthOf Y ru ic pr w i sh)) (upd ga (Int32.toNatClampNeg ((24 * w) + i)) (mg_X5_goOn_114 Y ru pr w sh i ic)) (upd fe (Int32.toNatClampNeg ((24 * w) + i)) (mg_X5_goOn_183 Y ru mn pr w sh i ic fe)) (upd dr (Int32.toNatClampNeg ((24 * w) + i)) (mg_X5_goOn_226 Y ru mn pr w sh i ic dr)))))
noncomputable def lq_X5_goOn_6_sd (Y : Nat → Int32) (ru : Nat → Int32) (mn : Nat → Int32) (pr : Nat → Int32) (hg : Nat → Int32) (al : Nat → Int32) (sd : Nat → Int32) (w : Int32) (sh : Int32) (se : Int32) : Nat → (Int32) → (Int32) → (Nat → Int32) → (Nat → Int32) → (Nat → Int32) → (Nat → Int32) → (Nat → Int32) → (Nat → Int32)
  | 0, _, _, _, _, _, _, _ => fun _ => 0
  | n + 1, sm, i, ic, wm, ga, fe, dr => (if (r_X5_vials Y) ≤ i then (upd sd (Int32.toNatClampNeg w) ((sd (Int32.toNatClampNeg w)) + sm)) else (if (ic (Int32.toNatClampNeg ((24 * w) + i))) = 0 then (lq_X5_goOn_6_sd Y ru mn pr hg al sd w sh se n sm (i + 1) ic (upd wm (Int32.toNatClampNeg ((24 * w) + i)) sh) (upd ga (Int32.toNatClampNeg ((24 * w) + i)) 0) fe dr) else (lq_X5_goOn_6_sd Y ru mn pr hg al sd w sh se n (sm + (mg_X5_goOn_114 Y ru pr w sh i ic)) (i + 1) (upd ic (Int32.toNatClampNeg ((24 * w) + i)) ((ic (Int32.toNatClampNeg ((24 * w) + i))) - (mg_X5_goOn_114 Y ru pr w sh i ic))) (upd wm (Int32.toNatClampNeg ((24 * w) + i)) (r_X5_warmthOf Y ru ic pr w i sh)) (upd ga (Int32.toNatClampNeg ((24 * w) + i)) (mg_X5_goOn_114 Y ru pr w sh i ic)) (upd fe (Int32.toNatClampNeg ((24 * w) + i)) (mg_X5_goOn_183 Y ru mn pr w sh i ic fe)) (upd dr (Int32.toNatClampNeg ((24 * w) + i)) (mg_X5_goOn_226 Y ru mn pr w sh i ic dr)))))
noncomputable def q_X5_goOn_ic (Y : Nat → Int32) (ru : Nat → Int32) (ic : Nat → Int32) (wm : Nat → Int32) (ga : Nat → Int32) (fe : Nat → Int32) (dr : Nat → Int32) (mn : Nat → Int32) (pr : Nat → Int32) (hg : Nat → Int32) (al : Nat → Int32) (sd : Nat → Int32) (w : Int32) (sh : Int32) (se : Int32) : Nat → Int32 := (lq_X5_goOn_6_ic Y ru mn pr hg al sd w sh se (fu ((Int32.toInt (r_X5_vials Y)).toNat + 1)) 0 0 ic wm ga fe dr)
noncomputable def q_X5_goOn_wm (Y : Nat → Int32) (ru : Nat → Int32) (ic : Nat → Int32) (wm : Nat → Int32) (ga : Nat → Int32) (fe : Nat → Int32) (dr : Nat → Int32) (mn : Nat → Int32) (pr : Nat → Int32) (hg : Nat → Int32) (al : Nat → Int32) (sd : Nat → Int32) (w : Int32) (sh : Int32) (se : Int32) : Nat → Int32 := (lq_X5_goOn_6_wm Y ru mn pr hg al sd w sh se (fu ((Int32.toInt (r_X5_vials Y)).toNat + 1)) 0 0 ic wm ga fe dr)
noncomputable def q_X5_goOn_ga (Y : Nat → Int32) (ru : Nat → Int32) (ic : Nat → Int32) (wm : Nat → Int32) (ga : Nat → Int32) (fe : Nat → Int32) (dr : Nat → Int32) (mn : Nat → Int32) (pr : Nat → Int32) (hg : Nat → Int32) (al : Nat → Int32) (sd : Nat → Int32) (w : Int32) (sh : Int32) (se : Int32) : Nat → Int32 := (lq_X5_goOn_6_ga Y ru mn pr hg al sd w sh se (fu ((Int32.toInt (r_X5_vials Y)).toNat + 1)) 0 0 ic wm ga fe dr)
noncomputable def q_X5_goOn_fe (Y : Nat → Int32) (ru : Nat → Int32) (ic : Nat → Int32) (wm : Nat → Int32) (ga : Nat → Int32) (fe : Nat → Int32) (dr : Nat → Int32) (mn : Nat → Int32) (pr : Nat → Int32) (hg : Nat → Int32) (al : Nat → Int32) (sd : Nat → Int32) (w : Int32) (sh : Int32) (se : Int32) : Nat → Int32 := (lq_X5_goOn_6_fe Y ru mn pr hg al sd w sh se (fu ((Int32.toInt (r_X5_vials Y)).toNat + 1)) 0 0 ic wm ga fe dr)
noncomputable def q_X5_goOn_dr (Y : Nat → Int32) (ru : Nat → Int32) (ic : Nat → Int32) (wm : Nat → Int32) (ga : Nat → Int32) (fe : Nat → Int32) (dr : Nat → Int32) (mn : Nat → Int32) (pr : Nat → Int32) (hg : Nat → Int32) (al : Nat → Int32) (sd : Nat → Int32) (w : Int32) (sh : Int32) (se : Int32) : Nat → Int32 := (lq_X5_goOn_6_dr Y ru mn pr hg al sd w sh se (fu ((Int32.toInt (r_X5_vials Y)).toNat + 1)) 0 0 ic wm ga fe dr)
noncomputable def q_X5_goOn_mn (Y : Nat → Int32) (ru : Nat → Int32) (ic : Nat → Int32) (wm : Nat → Int32) (ga : Nat → Int32) (fe : Nat → Int32) (dr : Nat → Int32) (mn : Nat → Int32) (pr : Nat → Int32) (hg : Nat → Int32) (al : Nat → Int32) (sd : Nat → Int32) (w : Int32) (sh : Int32) (se : Int32) : Nat → Int32 := (lq_X5_goOn_6_mn Y ru mn pr hg al sd w sh se (fu ((Int32.toInt (r_X5_vials Y)).toNat + 1)) 0 0 ic wm ga fe dr)
noncomputable def q_X5_goOn_pr (Y : Nat → Int32) (ru : Nat → Int32) (ic : Nat → Int32) (wm : Nat → Int32) (ga : Nat → Int32) (fe : Nat → Int32) (dr : Nat → Int32) (mn : Nat → Int32) (pr : Nat → Int32) (hg : Nat → Int32) (al : Nat → Int32) (sd : Nat → Int32) (w : Int32) (sh : Int32) (se : Int32) : Nat → Int32 := (lq_X5_goOn_6_pr Y ru mn pr hg al sd w sh se (fu ((Int32.toInt (r_X5_vials Y)).toNat + 1)) 0 0 ic wm ga fe dr)
noncomputable def q_X5_goOn_hg (Y : Nat → Int32) (ru : Nat → Int32) (ic : Nat → Int32) (wm : Nat → Int32) (ga : Nat → Int32) (fe : Nat → Int32) (dr : Nat → Int32) (mn : Nat → Int32) (pr : Nat → Int32) (hg : Nat → Int32) (al : Nat → Int32) (sd : Nat → Int32) (w : Int32) (sh : Int32) (se : Int32) : Nat → Int32 := (lq_X5_goOn_6_hg Y ru mn pr hg al sd w sh se (fu ((Int32.toInt (r_X5_vials Y)).toNat + 1)) 0 0 ic wm ga fe dr)
noncomputable def q_X5_goOn_al (Y : Nat → Int32) (ru : Nat → Int32) (ic : Nat → Int32) (wm : Nat → Int32) (ga : Nat → Int32) (fe : Nat → Int32) (dr : Nat → Int32) (mn : Nat → Int32) (pr : Nat → Int32) (hg : Nat → Int32) (al : Nat → Int32) (sd : Nat → Int32) (w : Int32) (sh : Int32) (se : Int32) : Nat → Int32 := (lq_X5_goOn_6_al Y ru mn pr hg al sd w sh se (fu ((Int32.toInt (r_X5_vials Y)).toNat + 1)) 0 0 ic wm ga fe dr)
noncomputable def q_X5_goOn_sd (Y : Nat → Int32) (ru : Nat → Int32) (ic : Nat → Int32) (wm : Nat → Int32) (ga : Nat → Int32) (fe : Nat → Int32) (dr : Nat → Int32) (mn : Nat → Int32) (pr : Nat → Int32) (hg : Nat → Int32) (al : Nat → Int32) (sd : Nat → Int32) (w : Int32) (sh : Int32) (se : Int32) : Nat → Int32 := (lq_X5_goOn_6_sd Y ru mn pr hg al sd w sh se (fu ((Int32.toInt (r_X5_vials Y)).toNat + 1)) 0 0 ic wm ga fe dr)
theorem ck_X5_goOn : CK yX5_goOn cX5_goOn 10 none 3 := ⟨wd_3_49, wd_1_7, by decide, by decide, by decide +kernel⟩
set_option maxHeartbeats 4000000 in
set_option maxRecDepth 100000 in
theorem c_X5_goOn (l : Launch) (D : va_G) (cI : ClassId) (a : Nat → Nat) (Y : Nat → Int32) (ru : Nat → Int32) (ic : Nat → Int32) (wm : Nat → Int32) (ga : Nat → Int32) (fe : Nat → Int32) (dr : Nat → Int32) (mn : Nat → Int32) (pr : Nat → Int32) (hg : Nat → Int32) (al : Nat → Int32) (sd : Nat → Int32) (w : Int32) (sh : Int32) (se : Int32) (hw : w = 0 ∨ w = 1) (hv : Int32.toInt (r_X5_vials Y) ≤ 24) (hc : ¬ (Y 1) = 0) (hf : ¬ (ru 0) = 0) (hg8 : ¬ (ru 8) = 0) (hI : okB ru ic w 0) : MV l D cI yX5_goOn cX5_goOn 10 5 118 [.ref (a 0), .int w, .int sh, .int se] [yc a Y, ac cI (a 2) 11 ru, ac cI (a 6) 48 ic, ac cI (a 7) 48 wm, ac cI (a 8) 48 ga, ac cI (a 9) 48 fe, ac cI (a 10) 48 dr, ac cI (a 11) 2 mn, ac cI (a 12) 2 pr, ac cI (a 13) 2 hg, ac cI (a 14) 2 al, ac cI (a 15) 2 sd] [yc a Y, ac cI (a 2) 11 ru, ac cI (a 6) 48 (q_X5_goOn_ic Y ru ic wm ga fe dr mn pr hg al sd w sh se), ac cI (a 7) 48 (q_X5_goOn_wm Y ru ic wm ga fe dr mn pr hg al sd w sh se), ac cI (a 8) 48 (q_X5_goOn_ga Y ru ic wm ga fe dr mn pr hg al sd w sh se), ac cI (a 9) 48 (q_X5_goOn_fe Y ru ic wm ga fe dr mn pr hg al sd w sh se), ac cI (a 10) 48 (q_X5_goOn_dr Y ru ic wm ga fe dr mn pr hg al sd w sh se), ac cI (a 11) 2 (q_X5_goOn_mn Y ru ic wm ga fe dr mn pr hg al sd w sh se), ac cI (a 12) 2 (q_X5_goOn_pr Y ru ic wm ga fe dr mn pr hg al sd w sh se), ac cI (a 13) 2 (q_X5_goOn_hg Y ru ic wm ga fe dr mn pr hg al sd w sh se), ac cI (a 14) 2 (q_X5_goOn_al Y ru ic wm ga fe dr mn pr hg al sd w sh se), ac cI (a 15) 2 (q_X5_goOn_sd Y ru ic wm ga fe dr mn pr hg al sd w sh se)] := by
  generalize ho_ic : (q_X5_goOn_ic Y ru ic wm ga fe dr mn pr hg al sd w sh se) = o_ic
  generalize ho_wm : (q_X5_goOn_wm Y ru ic wm ga fe dr mn pr hg al sd w sh se) = o_wm
  generalize ho_ga : (q_X5_goOn_ga Y ru ic wm ga fe dr mn pr hg al sd w sh se) = o_ga
  generalize ho_fe : (q_X5_goOn_fe Y ru ic wm ga fe dr mn pr hg al sd w sh se) = o_fe
  generalize ho_dr : (q_X5_goOn_dr Y ru ic wm ga fe dr mn pr hg al sd w sh se) = o_dr
  generalize ho_mn : (q_X5_goOn_mn Y ru ic wm ga fe dr mn pr hg al sd w sh se) = o_mn
  generalize ho_pr : (q_X5_goOn_pr Y ru ic wm ga fe dr mn pr hg al sd w sh se) = o_pr
  generalize ho_hg : (q_X5_goOn_hg Y ru ic wm ga fe dr mn pr hg al sd w sh se) = o_hg
  generalize ho_al : (q_X5_goOn_al Y ru ic wm ga fe dr mn pr hg al sd w sh se) = o_al
  generalize ho_sd : (q_X5_goOn_sd Y ru ic wm ga fe dr mn pr hg al sd w sh se) = o_sd
  refine MV.mk (own := RX5) rfl (by decide) (Nat.le_of_ble_eq_true rfl) ?_
  intro p e s m args below meth c A Q C hD hend H locs ls hP hS hl
  have hx := C.1.1
  have hb := C.1.2.1
  have hl : lv_has ls 10 [(0, .ref (a 0)), (1, .int w), (2, .int sh), (3, .int se)] := hl
  refine lv_iconst (v := 0) hx hb dX5_goOn_0 (by decide) ?_
  refine lv_istore (lv' := [(4, .int 0), (0, .ref (a 0)), (1, .int w), (2, .int sh), (3, .int se)]) hx hb dX5_goOn_1 hl (by decide) rfl (fun ls hl => ?_)
  refine lv_iconst (v := 0) hx hb dX5_goOn_3 (by decide) ?_
  refine lv_istore (lv' := [(5, .int 0), (4, .int 0), (0, .ref (a 0)), (1, .int w), (2, .int sh), (3, .int se)]) hx hb dX5_goOn_4 hl (by decide) rfl (fun ls hl => ?_)
  have lp6 : ∀ (n : Nat) (sm : Int32) (i : Int32) (ic : Nat → Int32) (wm : Nat → Int32) (ga : Nat → Int32) (fe : Nat → Int32) (dr : Nat → Int32), 0 ≤ Int32.toInt i → okB ru ic w i → (Int32.toInt (r_X5_vials Y) - Int32.toInt i).toNat < n → lq_X5_goOn_6_ic Y ru mn pr hg al sd w sh se n sm i ic wm ga fe dr = o_ic → lq_X5_goOn_6_wm Y ru mn pr hg al sd w sh se n sm i ic wm ga fe dr = o_wm → lq_X5_goOn_6_ga Y ru mn pr hg al sd w sh se n sm i ic wm ga fe dr = o_ga → lq_X5_goOn_6_fe Y ru mn pr hg al sd w sh se n sm i ic wm ga fe dr = o_fe → lq_X5_goOn_6_dr Y ru mn pr hg al sd w sh se n sm i ic wm ga fe dr = o_dr → lq_X5_goOn_6_mn Y ru mn pr hg al sd w sh se n sm i ic wm ga fe dr = o_mn → lq_X5_goOn_6_pr Y ru mn pr hg al sd w sh se n sm i ic wm ga fe dr = o_pr → lq_X5_goOn_6_hg Y ru mn pr hg al sd w sh se n sm i ic wm ga fe dr = o_hg → lq_X5_goOn_6_al Y ru mn pr hg al sd w sh se n sm i ic wm ga fe dr = o_al → lq_X5_goOn_6_sd Y ru mn pr hg al sd w sh se n sm i ic wm ga fe dr = o_sd → ∀ (ls : Array Slot) (H : Heap) (locs : List Loc), lv_has ls 10 [(0, .ref (a 0)), (1, .int w), (2, .int sh), (3, .int se), (4, .int sm), (5, .int i)] → va_P D vwCl [yc a Y, ac cI (a 2) 11 ru, ac cI (a 6) 48 ic, ac cI (a 7) 48 wm, ac cI (a 8) 48 ga, ac cI (a 9) 48 fe, ac cI (a 10) 48 dr, ac cI (a 11) 2 mn, ac cI (a 12) 2 pr, ac cI (a 13) 2 hg, ac cI (a 14) 2 al, ac cI (a 15) 2 sd] H → va_D A [yc a Y, ac cI (a 2) 11 ru, ac cI (a 6) 48 ic, ac cI (a 7) 48 wm, ac cI (a 8) 48 ga, ac cI (a 9) 48 fe, ac cI (a 10) 48 dr, ac cI (a 11) 2 mn, ac cI (a 12) 2 pr, ac cI (a 13) 2 hg, ac cI (a 14) 2 al, ac cI (a 15) 2 sd] → va_S A s.heap H locs → W p l e (RM 5 118) s m args below meth c H locs 0 0 Q (F0 m 6 ls []) := by
    clear hl hP hD hS
    intro n
    induction n with
    | zero =>
      intro sm i ic wm ga fe dr h0 hI hm
      exact absurd hm (Nat.not_lt_zero _)
    | succ n ih =>
      intro sm i ic wm ga fe dr h0 hI hm ho_ic ho_wm ho_ga ho_fe ho_dr ho_mn ho_pr ho_hg ho_al ho_sd ls H locs hl hP hD hS
      refine lv_iload hx hb dX5_goOn_6 (lv_at hl 5 rfl) ?_
      refine lv_aload_n hx hb dX5_goOn_8 rfl (lv_at hl 0 rfl) ?_
      refine go_i (ws' := [yc a Y, ac cI (a 2) 11 ru, ac cI (a 6) 48 ic, ac cI (a 7) 48 wm, ac cI (a 8) 48 ga, ac cI (a 9) 48 fe, ac cI (a 10) 48 dr, ac cI (a 11) 2 mn, ac cI (a 12) 2 pr, ac cI (a 13) 2 hg, ac cI (a 14) 2 al, ac cI (a 15) 2 sd]) C (rn_V (As := []) (rest := [.int i]) C (c_X5_vials l D cI a Y H.size) ck_X5_vials wd_2_221 wd_0_5 wd_2_219 ⟨Nat.le_of_ble_eq_true rfl, Nat.le_of_ble_eq_true rfl⟩ ⟨Nat.le_refl _, Nat.le_refl _⟩ (ci := 5) (q0 := 0) rfl rfl hP hD hS [0] rfl rfl hl rfl (Nat.le_of_ble_eq_true rfl) dX5_goOn_9) hP hD hS [0] rfl rfl rfl (fun H locs hP hD hS => ?_)
      refine lv_icmp_ge (tgt := 252) hx hb dX5_goOn_12 (by decide) (fun c1 => ?_) (fun c1 => ?_)
      · refine lv_aload_n hx hb dX5_goOn_252 rfl (lv_at hl 0 rfl) ?_
        refine kget (v := .ref (a 14)) C hP igX5 rfl 14 (by decide) wd_2_160 0 rfl rfl dX5_goOn_253 ?_
        refine lv_iload_n hx hb dX5_goOn_256 rfl (lv_at hl 1 rfl) ?_
        refine lv_iload hx hb dX5_goOn_257 (lv_at hl 4 rfl) ?_
        refine kast (ws' := [yc a Y, ac cI (a 2) 11 ru, ac cI (a 6) 48 ic, ac cI (a 7) 48 wm, ac cI (a 8) 48 ga, ac cI (a 9) 48 fe, ac cI (a 10) 48 dr, ac cI (a 11) 2 mn, ac cI (a 12) 2 pr, ac cI (a 13) 2 hg, ac cI (a 14) 2 (upd al (Int32.toNatClampNeg w) sm), ac cI (a 15) 2 sd]) C hP hD hS 10 rfl (in2 hw) (k := (Int32.toNatClampNeg w)) rfl rfl dX5_goOn_259 (fun H locs hP hD hS => ?_)
        refine lv_aload_n hx hb dX5_goOn_260 rfl (lv_at hl 0 rfl) ?_
        refine kget (v := .ref (a 15)) C hP igX5 rfl 15 (by decide) wd_2_161 0 rfl rfl dX5_goOn_261 ?_
        refine lv_iload_n hx hb dX5_goOn_264 rfl (lv_at hl 1 rfl) ?_
        refine lv_dup2_11 hx hb dX5_goOn_265 rfl rfl ?_
        refine kald C hP 11 rfl (in2 hw) (k := (Int32.toNatClampNeg w)) rfl dX5_goOn_266 ?_
        refine lv_iload hx hb dX5_goOn_267 (lv_at hl 4 rfl) ?_
        refine lv_iadd hx hb dX5_goOn_269 ?_
        refine kast (ws' := [yc a Y, ac cI (a 2) 11 ru, ac cI (a 6) 48 ic, ac cI (a 7) 48 wm, ac cI (a 8) 48 ga, ac cI (a 9) 48 fe, ac cI (a 10) 48 dr, ac cI (a 11) 2 mn, ac cI (a 12) 2 pr, ac cI (a 13) 2 hg, ac cI (a 14) 2 (upd al (Int32.toNatClampNeg w) sm), ac cI (a 15) 2 (upd sd (Int32.toNatClampNeg w) ((sd (Int32.toNatClampNeg w)) + sm))]) C hP hD hS 11 rfl (in2 hw) (k := (Int32.toNatClampNeg w)) rfl rfl dX5_goOn_270 (fun H locs hP hD hS => ?_)
        refine lv_aload_n hx hb dX5_goOn_271 rfl (lv_at hl 0 rfl) ?_
        refine kget (v := .ref (a 12)) C hP igX5 rfl 12 (by decide) wd_2_158 0 rfl rfl dX5_goOn_272 ?_
        refine lv_iload_n hx hb dX5_goOn_275 rfl (lv_at hl 1 rfl) ?_
        refine kald C hP 8 rfl (in2 hw) (k := (Int32.toNatClampNeg w)) rfl dX5_goOn_276 ?_
        refine lv_istore (lv' := [(5, .int (pr (Int32.toNatClampNeg w))), (0, .ref (a 0)), (1, .int w), (2, .int sh), (3, .int se), (4, .int sm)]) hx hb dX5_goOn_277 hl (by decide) rfl (fun ls hl => ?_)
        refine lv_iload hx hb dX5_goOn_279 (lv_at hl 5 rfl) ?_
        refine lv_aload_n hx hb dX5_goOn_281 rfl (lv_at hl 1 rfl) ?_
        refine kget (v := .ref (a 2)) C hP igX5 rfl 2 (by decide) wd_2_148 0 rfl rfl dX5_goOn_282 ?_
        refine lv_bipush (v := 7) hx hb dX5_goOn_285 (by decide) ?_
        refine kald C hP 1 rfl (vp_in_iff.mpr (by decide)) (k := 7) rfl dX5_goOn_287 ?_
        have j347 : ∀ (ls : Array Slot) (H : Heap) (locs : List Loc), lv_has ls 10 [(0, .ref (a 0)), (1, .int w), (2, .int sh), (3, .int se), (4, .int sm), (5, .int (mg_X5_goOn_288 ru pr w sm))] → va_P D vwCl [yc a Y, ac cI (a 2) 11 ru, ac cI (a 6) 48 ic, ac cI (a 7) 48 wm, ac cI (a 8) 48 ga, ac cI (a 9) 48 fe, ac cI (a 10) 48 dr, ac cI (a 11) 2 mn, ac cI (a 12) 2 pr, ac cI (a 13) 2 hg, ac cI (a 14) 2 (upd al (Int32.toNatClampNeg w) sm), ac cI (a 15) 2 (upd sd (Int32.toNatClampNeg w) ((sd (Int32.toNatClampNeg w)) + sm))] H → va_D A [yc a Y, ac cI (a 2) 11 ru, ac cI (a 6) 48 ic, ac cI (a 7) 48 wm, ac cI (a 8) 48 ga, ac cI (a 9) 48 fe, ac cI (a 10) 48 dr, ac cI (a 11) 2 mn, ac cI (a 12) 2 pr, ac cI (a 13) 2 hg, ac cI (a 14) 2 (upd al (Int32.toNatClampNeg w) sm), ac cI (a 15) 2 (upd sd (Int32.toNatClampNeg w) ((sd (Int32.toNatClampNeg w)) + sm))] → va_S A s.heap H locs → W p l e (RM 5 118) s m args below meth c H locs 0 0 Q (F0 m 347 ls []) := by
          intro ls H locs hl hP hD hS
          refine lv_aload_n hx hb dX5_goOn_347 rfl (lv_at hl 0 rfl) ?_
          refine kget (v := .ref (a 12)) C hP igX5 rfl 12 (by decide) wd_2_158 0 rfl rfl dX5_goOn_348 ?_
          refine lv_iload_n hx hb dX5_goOn_351 rfl (lv_at hl 1 rfl) ?_
          refine lv_iload hx hb dX5_goOn_352 (lv_at hl 5 rfl) ?_
          refine lv_iload_n hx hb dX5_goOn_354 rfl (lv_at hl 3 rfl) ?_
          have j364 : ∀ (ls : Array Slot) (H : Heap) (locs : List Loc), lv_has ls 10 [(0, .ref (a 0)), (1, .int w), (2, .int sh), (3, .int se), (4, .int sm), (5, .int (mg_X5_goOn_288 ru pr w sm))] → va_P D vwCl [yc a Y, ac cI (a 2) 11 ru, ac cI (a 6) 48 ic, ac cI (a 7) 48 wm, ac cI (a 8) 48 ga, ac cI (a 9) 48 fe, ac cI (a 10) 48 dr, ac cI (a 11) 2 mn, ac cI (a 12) 2 pr, ac cI (a 13) 2 hg, ac cI (a 14) 2 (upd al (Int32.toNatClampNeg w) sm), ac cI (a 15) 2 (upd sd (Int32.toNatClampNeg w) ((sd (Int32.toNatClampNeg w)) + sm))] H → va_D A [yc a Y, ac cI (a 2) 11 ru, ac cI (a 6) 48 ic, ac cI (a 7) 48 wm, ac cI (a 8) 48 ga, ac cI (a 9) 48 fe, ac cI (a 10) 48 dr, ac cI (a 11) 2 mn, ac cI (a 12) 2 pr, ac cI (a 13) 2 hg, ac cI (a 14) 2 (upd al (Int32.toNatClampNeg w) sm), ac cI (a 15) 2 (upd sd (Int32.toNatClampNeg w) ((sd (Int32.toNatClampNeg w)) + sm))] → va_S A s.heap H locs → W p l e (RM 5 118) s m args below meth c H locs 0 0 Q (F0 m 364 ls [.int (mg_X5_goOn_355 ru pr w se sm), .int w, .ref (a 12)]) := by
            intro ls H locs hl hP hD hS
            refine kast (ws' := [yc a Y, ac cI (a 2) 11 ru, ac cI (a 6) 48 ic, ac cI (a 7) 48 wm, ac cI (a 8) 48 ga, ac cI (a 9) 48 fe, ac cI (a 10) 48 dr, ac cI (a 11) 2 mn, ac cI (a 12) 2 (upd pr (Int32.toNatClampNeg w) (mg_X5_goOn_355 ru pr w se sm)), ac cI (a 13) 2 hg, ac cI (a 14) 2 (upd al (Int32.toNatClampNeg w) sm), ac cI (a 15) 2 (upd sd (Int32.toNatClampNeg w) ((sd (Int32.toNatClampNeg w)) + sm))]) C hP hD hS 8 rfl (in2 hw) (k := (Int32.toNatClampNeg w)) rfl rfl dX5_goOn_364 (fun H locs hP hD hS => ?_)
            refine lv_aload_n hx hb dX5_goOn_365 rfl (lv_at hl 0 rfl) ?_
            refine kget (v := .ref (a 13)) C hP igX5 rfl 13 (by decide) wd_2_159 0 rfl rfl dX5_goOn_366 ?_
            refine lv_iload_n hx hb dX5_goOn_369 rfl (lv_at hl 1 rfl) ?_
            refine lv_aload_n hx hb dX5_goOn_370 rfl (lv_at hl 0 rfl) ?_
            refine kget (v := .ref (a 12)) C hP igX5 rfl 12 (by decide) wd_2_158 0 rfl rfl dX5_goOn_371 ?_
            refine lv_iload_n hx hb dX5_goOn_374 rfl (lv_at hl 1 rfl) ?_
            refine kald C hP 8 rfl (in2 hw) (k := (Int32.toNatClampNeg w)) rfl dX5_goOn_375 ?_
            refine lv_aload_n hx hb dX5_goOn_376 rfl (lv_at hl 0 rfl) ?_
            refine kget (v := .ref (a 13)) C hP igX5 rfl 13 (by decide) wd_2_159 0 rfl rfl dX5_goOn_377 ?_
            refine lv_iload_n hx hb dX5_goOn_380 rfl (lv_at hl 1 rfl) ?_
            refine kald C hP 9 rfl (in2 hw) (k := (Int32.toNatClampNeg w)) rfl dX5_goOn_381 ?_
            have j400 : ∀ (ls : Array Slot) (H : Heap) (locs : List Loc), lv_has ls 10 [(0, .ref (a 0)), (1, .int w), (2, .int sh), (3, .int se), (4, .int sm), (5, .int (mg_X5_goOn_288 ru pr w sm))] → va_P D vwCl [yc a Y, ac cI (a 2) 11 ru, ac cI (a 6) 48 ic, ac cI (a 7) 48 wm, ac cI (a 8) 48 ga, ac cI (a 9) 48 fe, ac cI (a 10) 48 dr, ac cI (a 11) 2 mn, ac cI (a 12) 2 (upd pr (Int32.toNatClampNeg w) (mg_X5_goOn_355 ru pr w se sm)), ac cI (a 13) 2 hg, ac cI (a 14) 2 (upd al (Int32.toNatClampNeg w) sm), ac cI (a 15) 2 (upd sd (Int32.toNatClampNeg w) ((sd (Int32.toNatClampNeg w)) + sm))] H → va_D A [yc a Y, ac cI (a 2) 11 ru, ac cI (a 6) 48 ic, ac cI (a 7) 48 wm, ac cI (a 8) 48 ga, ac cI (a 9) 48 fe, ac cI (a 10) 48 dr, ac cI (a 11) 2 mn, ac cI (a 12) 2 (upd pr (Int32.toNatClampNeg w) (mg_X5_goOn_355 ru pr w se sm)), ac cI (a 13) 2 hg, ac cI (a 14) 2 (upd al (Int32.toNatClampNeg w) sm), ac cI (a 15) 2 (upd sd (Int32.toNatClampNeg w) ((sd (Int32.toNatClampNeg w)) + sm))] → va_S A s.heap H locs → W p l e (RM 5 118) s m args below meth c H locs 0 0 Q (F0 m 400 ls [.int (mg_X5_goOn_382 ru pr hg w se sm), .int w, .ref (a 13)]) := by
              intro ls H locs hl hP hD hS
              refine kast (ws' := [yc a Y, ac cI (a 2) 11 ru, ac cI (a 6) 48 ic, ac cI (a 7) 48 wm, ac cI (a 8) 48 ga, ac cI (a 9) 48 fe, ac cI (a 10) 48 dr, ac cI (a 11) 2 mn, ac cI (a 12) 2 (upd pr (Int32.toNatClampNeg w) (mg_X5_goOn_355 ru pr w se sm)), ac cI (a 13) 2 (upd hg (Int32.toNatClampNeg w) (mg_X5_goOn_382 ru pr hg w se sm)), ac cI (a 14) 2 (upd al (Int32.toNatClampNeg w) sm), ac cI (a 15) 2 (upd sd (Int32.toNatClampNeg w) ((sd (Int32.toNatClampNeg w)) + sm))]) C hP hD hS 9 rfl (in2 hw) (k := (Int32.toNatClampNeg w)) rfl rfl dX5_goOn_400 (fun H locs hP hD hS => ?_)
              refine lv_aload_n hx hb dX5_goOn_401 rfl (lv_at hl 0 rfl) ?_
              refine kget (v := .ref (a 11)) C hP igX5 rfl 11 (by decide) wd_2_157 0 rfl rfl dX5_goOn_402 ?_
              refine lv_iload_n hx hb dX5_goOn_405 rfl (lv_at hl 1 rfl) ?_
              refine lv_dup2_11 hx hb dX5_goOn_406 rfl rfl ?_
              refine kald C hP 7 rfl (in2 hw) (k := (Int32.toNatClampNeg w)) rfl dX5_goOn_407 ?_
              refine lv_iconst (v := 1) hx hb dX5_goOn_408 (by decide) ?_
              refine lv_iadd hx hb dX5_goOn_409 ?_
              refine kast (ws' := [yc a Y, ac cI (a 2) 11 ru, ac cI (a 6) 48 ic, ac cI (a 7) 48 wm, ac cI (a 8) 48 ga, ac cI (a 9) 48 fe, ac cI (a 10) 48 dr, ac cI (a 11) 2 (upd mn (Int32.toNatClampNeg w) ((mn (Int32.toNatClampNeg w)) + 1)), ac cI (a 12) 2 (upd pr (Int32.toNatClampNeg w) (mg_X5_goOn_355 ru pr w se sm)), ac cI (a 13) 2 (upd hg (Int32.toNatClampNeg w) (mg_X5_goOn_382 ru pr hg w se sm)), ac cI (a 14) 2 (upd al (Int32.toNatClampNeg w) sm), ac cI (a 15) 2 (upd sd (Int32.toNatClampNeg w) ((sd (Int32.toNatClampNeg w)) + sm))]) C hP hD hS 7 rfl (in2 hw) (k := (Int32.toNatClampNeg w)) rfl rfl dX5_goOn_410 (fun H locs hP hD hS => ?_)
              exact hend _ _ _ _ (by rw [← ho_ic, lq_X5_goOn_6_ic, if_pos c1, ← ho_wm, lq_X5_goOn_6_wm, if_pos c1, ← ho_ga, lq_X5_goOn_6_ga, if_pos c1, ← ho_fe, lq_X5_goOn_6_fe, if_pos c1, ← ho_dr, lq_X5_goOn_6_dr, if_pos c1, ← ho_mn, lq_X5_goOn_6_mn, if_pos c1, ← ho_pr, lq_X5_goOn_6_pr, if_pos c1, ← ho_hg, lq_X5_goOn_6_hg, if_pos c1, ← ho_al, lq_X5_goOn_6_al, if_pos c1, ← ho_sd, lq_X5_goOn_6_sd, if_pos c1]; exact hP) hS dX5_goOn_411
            refine lv_icmp_le (tgt := 394) hx hb dX5_goOn_382 (by decide) (fun c5 => ?_) (fun c5 => ?_)
            · refine lv_aload_n hx hb dX5_goOn_394 rfl (lv_at hl 0 rfl) ?_
              refine kget (v := .ref (a 13)) C hP igX5 rfl 13 (by decide) wd_2_159 0 rfl rfl dX5_goOn_395 ?_
              refine lv_iload_n hx hb dX5_goOn_398 rfl (lv_at hl 1 rfl) ?_
              refine kald C hP 9 rfl (in2 hw) (k := (Int32.toNatClampNeg w)) rfl dX5_goOn_399 ?_
              have e_mg_X5_goOn_382 : (mg_X5_goOn_382 ru pr hg w se sm) = (hg (Int32.toNatClampNeg w)) := by rw [mg_X5_goOn_382, if_pos c5]
              have jj := j400
              rw [e_mg_X5_goOn_382] at jj
              exact jj ls H locs (lv_sub hl [0, 1, 2, 3, 4, 5] rfl) hP hD hS
            · refine lv_aload_n hx hb dX5_goOn_385 rfl (lv_at hl 0 rfl) ?_
              refine kget (v := .ref (a 12)) C hP igX5 rfl 12 (by decide) wd_2_158 0 rfl rfl dX5_goOn_386 ?_
              refine lv_iload_n hx hb dX5_goOn_389 rfl (lv_at hl 1 rfl) ?_
              refine kald C hP 8 rfl (in2 hw) (k := (Int32.toNatClampNeg w)) rfl dX5_goOn_390 ?_
              refine lv_goto (tgt := 400) hx hb dX5_goOn_391 (by decide) ?_
              have e_mg_X5_goOn_382 : (mg_X5_goOn_382 ru pr hg w se sm) = ((upd pr (Int32.toNatClampNeg w) (mg_X5_goOn_355 ru pr w se sm)) (Int32.toNatClampNeg w)) := by rw [mg_X5_goOn_382, if_neg c5]
              have jj := j400
              rw [e_mg_X5_goOn_382] at jj
              exact jj ls H locs (lv_sub hl [0, 1, 2, 3, 4, 5] rfl) hP hD hS
          refine lv_icmp_ge (tgt := 362) hx hb dX5_goOn_355 (by decide) (fun c4 => ?_) (fun c4 => ?_)
          · refine lv_iload hx hb dX5_goOn_362 (lv_at hl 5 rfl) ?_
            have e_mg_X5_goOn_355 : (mg_X5_goOn_355 ru pr w se sm) = (mg_X5_goOn_288 ru pr w sm) := by rw [mg_X5_goOn_355, if_pos c4]
            have jj := j364
            rw [e_mg_X5_goOn_355] at jj
            exact jj ls H locs (lv_sub hl [0, 1, 2, 3, 4, 5] rfl) hP hD hS
          · refine lv_iload_n hx hb dX5_goOn_358 rfl (lv_at hl 3 rfl) ?_
            refine lv_goto (tgt := 364) hx hb dX5_goOn_359 (by decide) ?_
            have e_mg_X5_goOn_355 : (mg_X5_goOn_355 ru pr w se sm) = se := by rw [mg_X5_goOn_355, if_neg c4]
            have jj := j364
            rw [e_mg_X5_goOn_355] at jj
            exact jj ls H locs (lv_sub hl [0, 1, 2, 3, 4, 5] rfl) hP hD hS
        refine lv_icmp_le (tgt := 335) hx hb dX5_goOn_288 (by decide) (fun c2 => ?_) (fun c2 => ?_)
        · refine lv_iload hx hb dX5_goOn_335 (lv_at hl 0 rfl) ?_
          refine lv_aload_n hx hb dX5_goOn_337 rfl (lv_at hl 1 rfl) ?_
          refine kget (v := .ref (a 2)) C hP igX5 rfl 2 (by decide) wd_2_148 0 rfl rfl dX5_goOn_338 ?_
          refine lv_bipush (v := 9) hx hb dX5_goOn_341 (by decide) ?_
          refine kald C hP 1 rfl (vp_in_iff.mpr (by decide)) (k := 9) rfl dX5_goOn_343 ?_
          refine lv_isub hx hb dX5_goOn_344 ?_
          refine lv_istore (lv' := [(5, .int ((pr (Int32.toNatClampNeg w)) - (ru 9))), (0, .ref (a 0)), (1, .int w), (2, .int sh), (3, .int se), (4, .int sm)]) hx hb dX5_goOn_345 hl (by decide) rfl (fun ls hl => ?_)
          have e_mg_X5_goOn_288 : (mg_X5_goOn_288 ru pr w sm) = ((pr (Int32.toNatClampNeg w)) - (ru 9)) := by rw [mg_X5_goOn_288, if_pos c2]
          have jj := j347
          rw [e_mg_X5_goOn_288] at jj
          exact jj ls H locs (lv_sub hl [1, 2, 3, 4, 5, 0] rfl) hP hD hS
        · refine lv_iload hx hb dX5_goOn_291 (lv_at hl 0 rfl) ?_
          refine lv_iload hx hb dX5_goOn_293 (lv_at hl 5 rfl) ?_
          refine lv_aload_n hx hb dX5_goOn_295 rfl (lv_at hl 1 rfl) ?_
          refine kget (v := .ref (a 2)) C hP igX5 rfl 2 (by decide) wd_2_148 0 rfl rfl dX5_goOn_296 ?_
          refine lv_bipush (v := 7) hx hb dX5_goOn_299 (by decide) ?_
          refine kald C hP 1 rfl (vp_in_iff.mpr (by decide)) (k := 7) rfl dX5_goOn_301 ?_
          refine lv_isub hx hb dX5_goOn_302 ?_
          refine lv_aload_n hx hb dX5_goOn_303 rfl (lv_at hl 1 rfl) ?_
          refine kget (v := .ref (a 2)) C hP igX5 rfl 2 (by decide) wd_2_148 0 rfl rfl dX5_goOn_304 ?_
          refine lv_bipush (v := 8) hx hb dX5_goOn_307 (by decide) ?_
          refine kald C hP 1 rfl (vp_in_iff.mpr (by decide)) (k := 8) rfl dX5_goOn_309 ?_
          refine lv_idiv hx hb dX5_goOn_310 hg8 ?_
          refine lv_iadd hx hb dX5_goOn_311 ?_
          refine lv_istore (lv' := [(5, .int ((pr (Int32.toNatClampNeg w)) + ((sm - (ru 7)) / (ru 8)))), (0, .ref (a 0)), (1, .int w), (2, .int sh), (3, .int se), (4, .int sm)]) hx hb dX5_goOn_312 hl (by decide) rfl (fun ls hl => ?_)
          refine lv_iload hx hb dX5_goOn_314 (lv_at hl 0 rfl) ?_
          refine lv_sipush (v := 20000) hx hb dX5_goOn_316 (by decide) ?_
          have j330 : ∀ (ls : Array Slot) (H : Heap) (locs : List Loc), lv_has ls 10 [(0, .ref (a 0)), (1, .int w), (2, .int sh), (3, .int se), (4, .int sm), (5, .int ((pr (Int32.toNatClampNeg w)) + ((sm - (ru 7)) / (ru 8))))] → va_P D vwCl [yc a Y, ac cI (a 2) 11 ru, ac cI (a 6) 48 ic, ac cI (a 7) 48 wm, ac cI (a 8) 48 ga, ac cI (a 9) 48 fe, ac cI (a 10) 48 dr, ac cI (a 11) 2 mn, ac cI (a 12) 2 pr, ac cI (a 13) 2 hg, ac cI (a 14) 2 (upd al (Int32.toNatClampNeg w) sm), ac cI (a 15) 2 (upd sd (Int32.toNatClampNeg w) ((sd (Int32.toNatClampNeg w)) + sm))] H → va_D A [yc a Y, ac cI (a 2) 11 ru, ac cI (a 6) 48 ic, ac cI (a 7) 48 wm, ac cI (a 8) 48 ga, ac cI (a 9) 48 fe, ac cI (a 10) 48 dr, ac cI (a 11) 2 mn, ac cI (a 12) 2 pr, ac cI (a 13) 2 hg, ac cI (a 14) 2 (upd al (Int32.toNatClampNeg w) sm), ac cI (a 15) 2 (upd sd (Int32.toNatClampNeg w) ((sd (Int32.toNatClampNeg w)) + sm))] → va_S A s.heap H locs → W p l e (RM 5 118) s m args below meth c H locs 0 0 Q (F0 m 330 ls [.int (mg_X5_goOn_319 ru pr w sm)]) := by
            intro ls H locs hl hP hD hS
            refine lv_istore (lv' := [(5, .int (mg_X5_goOn_319 ru pr w sm)), (0, .ref (a 0)), (1, .int w), (2, .int sh), (3, .int se), (4, .int sm)]) hx hb dX5_goOn_330 hl (by decide) rfl (fun ls hl => ?_)
            refine lv_goto (tgt := 347) hx hb dX5_goOn_332 (by decide) ?_
            have e_mg_X5_goOn_288 : (mg_X5_goOn_288 ru pr w sm) = (mg_X5_goOn_319 ru pr w sm) := by rw [mg_X5_goOn_288, if_neg c2]
            have jj := j347
            rw [e_mg_X5_goOn_288] at jj
            exact jj ls H locs (lv_sub hl [1, 2, 3, 4, 5, 0] rfl) hP hD hS
          refine lv_icmp_le (tgt := 328) hx hb dX5_goOn_319 (by decide) (fun c3 => ?_) (fun c3 => ?_)
          · refine lv_iload hx hb dX5_goOn_328 (lv_at hl 0 rfl) ?_
            have e_mg_X5_goOn_319 : (mg_X5_goOn_319 ru pr w sm) = ((pr (Int32.toNatClampNeg w)) + ((sm - (ru 7)) / (ru 8))) := by rw [mg_X5_goOn_319, if_pos c3]
            have jj := j330
            rw [e_mg_X5_goOn_319] at jj
            exact jj ls H locs (lv_sub hl [1, 2, 3, 4, 5, 0] rfl) hP hD hS
          · refine lv_sipush (v := 20000) hx hb dX5_goOn_322 (by decide) ?_
            refine lv_goto (tgt := 330) hx hb dX5_goOn_325 (by decide) ?_
            have e_mg_X5_goOn_319 : (mg_X5_goOn_319 ru pr w sm) = 20000 := by rw [mg_X5_goOn_319, if_neg c3]
            have jj := j330
            rw [e_mg_X5_goOn_319] at jj
            exact jj ls H locs (lv_sub hl [1, 2, 3, 4, 5, 0] rfl) hP hD hS
      · have hk : vp_in ((24 * w) + i) 48 := in48 hw (inV h0 hv c1)
        have hbz := hI i (Int.le_refl _) (vp_in_iff.mp (inV h0 hv c1)).2
        refine lv_bipush (v := 24) hx hb dX5_goOn_15 (by decide) ?_
        refine lv_iload_n hx hb dX5_goOn_17 rfl (lv_at hl 1 rfl) ?_
        refine lv_imul hx hb dX5_goOn_18 ?_
        refine lv_iload hx hb dX5_goOn_19 (lv_at hl 5 rfl) ?_
        refine lv_iadd hx hb dX5_goOn_21 ?_
        refine lv_istore (lv' := [(6, .int ((24 * w) + i)), (0, .ref (a 0)), (1, .int w), (2, .int sh), (3, .int se), (4, .int sm), (5, .int i)]) hx hb dX5_goOn_22 hl (by decide) rfl (fun ls hl => ?_)
        refine lv_aload_n hx hb dX5_goOn_24 rfl (lv_at hl 1 rfl) ?_
        refine kget (v := .ref (a 6)) C hP igX5 rfl 6 (by decide) wd_2_152 0 rfl rfl dX5_goOn_25 ?_
        refine lv_iload hx hb dX5_goOn_28 (lv_at hl 0 rfl) ?_
        refine kald C hP 2 rfl hk (k := (Int32.toNatClampNeg ((24 * w) + i))) rfl dX5_goOn_30 ?_
        refine lv_if_ne (tgt := 53) hx hb dX5_goOn_31 (by decide) (fun c6 => ?_) (fun c6 => ?_)
        · refine lv_aload_n hx hb dX5_goOn_53 rfl (lv_at hl 1 rfl) ?_
          refine lv_iload_n hx hb dX5_goOn_54 rfl (lv_at hl 2 rfl) ?_
          refine lv_iload hx hb dX5_goOn_55 (lv_at hl 6 rfl) ?_
          refine lv_iload_n hx hb dX5_goOn_57 rfl (lv_at hl 3 rfl) ?_
          refine go_i (ws' := [yc a Y, ac cI (a 2) 11 ru, ac cI (a 6) 48 ic, ac cI (a 7) 48 wm, ac cI (a 8) 48 ga, ac cI (a 9) 48 fe, ac cI (a 10) 48 dr, ac cI (a 11) 2 mn, ac cI (a 12) 2 pr, ac cI (a 13) 2 hg, ac cI (a 14) 2 al, ac cI (a 15) 2 sd]) C (rn_V (As := [.int w, .int i, .int sh]) (rest := []) C (c_X5_warmthOf l D cI a Y ru ic pr w i sh hw hk hf hc hbz H.size) ck_X5_warmthOf wd_3_52 wd_0_10 wd_3_50 ⟨Nat.le_of_ble_eq_true rfl, Nat.le_of_ble_eq_true rfl⟩ ⟨Nat.le_refl _, Nat.le_refl _⟩ (ci := 5) (q0 := 0) rfl rfl hP hD hS [0, 1, 2, 8] rfl rfl hl rfl (Nat.le_of_ble_eq_true rfl) dX5_goOn_58) hP hD hS [0, 1, 2, 8] rfl rfl rfl (fun H locs hP hD hS => ?_)
          refine lv_istore (lv' := [(7, .int (r_X5_warmthOf Y ru ic pr w i sh)), (6, .int ((24 * w) + i)), (0, .ref (a 0)), (1, .int w), (2, .int sh), (3, .int se), (4, .int sm), (5, .int i)]) hx hb dX5_goOn_61 hl (by decide) rfl (fun ls hl => ?_)
          refine lv_bipush (v := 100) hx hb dX5_goOn_63 (by decide) ?_
          refine lv_aload_n hx hb dX5_goOn_65 rfl (lv_at hl 2 rfl) ?_
          refine kget (v := .ref (a 2)) C hP igX5 rfl 2 (by decide) wd_2_148 0 rfl rfl dX5_goOn_66 ?_
          refine lv_iconst (v := 0) hx hb dX5_goOn_69 (by decide) ?_
          refine kald C hP 1 rfl (vp_in_iff.mpr (by decide)) (k := 0) rfl dX5_goOn_70 ?_
          refine lv_aload_n hx hb dX5_goOn_71 rfl (lv_at hl 2 rfl) ?_
          refine kget (v := .ref (a 6)) C hP igX5 rfl 6 (by decide) wd_2_152 0 rfl rfl dX5_goOn_72 ?_
          refine lv_iload hx hb dX5_goOn_75 (lv_at hl 1 rfl) ?_
          refine kald C hP 2 rfl hk (k := (Int32.toNatClampNeg ((24 * w) + i))) rfl dX5_goOn_77 ?_
          refine lv_isub hx hb dX5_goOn_78 ?_
          refine lv_imul hx hb dX5_goOn_79 ?_
          refine lv_aload_n hx hb dX5_goOn_80 rfl (lv_at hl 2 rfl) ?_
          refine kget (v := .ref (a 2)) C hP igX5 rfl 2 (by decide) wd_2_148 0 rfl rfl dX5_goOn_81 ?_
          refine lv_iconst (v := 0) hx hb dX5_goOn_84 (by decide) ?_
          refine kald C hP 1 rfl (vp_in_iff.mpr (by decide)) (k := 0) rfl dX5_goOn_85 ?_
          refine lv_idiv hx hb dX5_goOn_86 hf ?_
          refine lv_istore (lv' := [(8, .int ((100 * ((ru 0) - (ic (Int32.toNatClampNeg ((24 * w) + i))))) / (ru 0))), (7, .int (r_X5_warmthOf Y ru ic pr w i sh)), (6, .int ((24 * w) + i)), (0, .ref (a 0)), (1, .int w), (2, .int sh), (3, .int se), (4, .int sm), (5, .int i)]) hx hb dX5_goOn_87 hl (by decide) rfl (fun ls hl => ?_)
          refine lv_aload_n hx hb dX5_goOn_89 rfl (lv_at hl 3 rfl) ?_
          refine lv_iload hx hb dX5_goOn_90 (lv_at hl 1 rfl) ?_
          refine lv_iload hx hb dX5_goOn_92 (lv_at hl 0 rfl) ?_
          refine lv_aload_n hx hb dX5_goOn_94 rfl (lv_at hl 3 rfl) ?_
          refine kget (v := .ref (a 12)) C hP igX5 rfl 12 (by decide) wd_2_158 0 rfl rfl dX5_goOn_95 ?_
          refine lv_iload_n hx hb dX5_goOn_98 rfl (lv_at hl 4 rfl) ?_
          refine kald C hP 8 rfl (in2 hw) (k := (Int32.toNatClampNeg w)) rfl dX5_goOn_99 ?_
          refine go_i (ws' := [yc a Y, ac cI (a 2) 11 ru, ac cI (a 6) 48 ic, ac cI (a 7) 48 wm, ac cI (a 8) 48 ga, ac cI (a 9) 48 fe, ac cI (a 10) 48 dr, ac cI (a 11) 2 mn, ac cI (a 12) 2 pr, ac cI (a 13) 2 hg, ac cI (a 14) 2 al, ac cI (a 15) 2 sd]) C (rn_V (As := [.int (r_X5_warmthOf Y ru ic pr w i sh), .int ((100 * ((ru 0) - (ic (Int32.toNatClampNeg ((24 * w) + i))))) / (ru 0)), .int (pr (Int32.toNatClampNeg w))]) (rest := []) C (c_X5_steamAt l D cI a Y ru (r_X5_warmthOf Y ru ic pr w i sh) ((100 * ((ru 0) - (ic (Int32.toNatClampNeg ((24 * w) + i))))) / (ru 0)) (pr (Int32.toNatClampNeg w)) hbz H.size) ck_X5_steamAt wd_3_13 wd_0_6 wd_3_11 ⟨Nat.le_of_ble_eq_true rfl, Nat.le_of_ble_eq_true rfl⟩ ⟨Nat.le_refl _, Nat.le_refl _⟩ (ci := 5) (q0 := 0) rfl rfl hP hD hS [0, 1] rfl rfl hl rfl (Nat.le_of_ble_eq_true rfl) dX5_goOn_100) hP hD hS [0, 1] rfl rfl rfl (fun H locs hP hD hS => ?_)
          refine lv_istore (lv' := [(9, .int (r_X5_steamAt ru (r_X5_warmthOf Y ru ic pr w i sh) ((100 * ((ru 0) - (ic (Int32.toNatClampNeg ((24 * w) + i))))) / (ru 0)) (pr (Int32.toNatClampNeg w)))), (8, .int ((100 * ((ru 0) - (ic (Int32.toNatClampNeg ((24 * w) + i))))) / (ru 0))), (7, .int (r_X5_warmthOf Y ru ic pr w i sh)), (6, .int ((24 * w) + i)), (0, .ref (a 0)), (1, .int w), (2, .int sh), (3, .int se), (4, .int sm), (5, .int i)]) hx hb dX5_goOn_103 hl (by decide) rfl (fun ls hl => ?_)
          refine lv_iload hx hb dX5_goOn_105 (lv_at hl 0 rfl) ?_
          refine lv_aload_n hx hb dX5_goOn_107 rfl (lv_at hl 4 rfl) ?_
          refine kget (v := .ref (a 6)) C hP igX5 rfl 6 (by decide) wd_2_152 0 rfl rfl dX5_goOn_108 ?_
          refine lv_iload hx hb dX5_goOn_111 (lv_at hl 3 rfl) ?_
          refine kald C hP 2 rfl hk (k := (Int32.toNatClampNeg ((24 * w) + i))) rfl dX5_goOn_113 ?_
          have j129 : ∀ (ls : Array Slot) (H : Heap) (locs : List Loc), lv_has ls 10 [(0, .ref (a 0)), (1, .int w), (2, .int sh), (3, .int se), (4, .int sm), (5, .int i), (6, .int ((24 * w) + i)), (7, .int (r_X5_warmthOf Y ru ic pr w i sh)), (8, .int ((100 * ((ru 0) - (ic (Int32.toNatClampNeg ((24 * w) + i))))) / (ru 0))), (9, .int (r_X5_steamAt ru (r_X5_warmthOf Y ru ic pr w i sh) ((100 * ((ru 0) - (ic (Int32.toNatClampNeg ((24 * w) + i))))) / (ru 0)) (pr (Int32.toNatClampNeg w))))] → va_P D vwCl [yc a Y, ac cI (a 2) 11 ru, ac cI (a 6) 48 ic, ac cI (a 7) 48 wm, ac cI (a 8) 48 ga, ac cI (a 9) 48 fe, ac cI (a 10) 48 dr, ac cI (a 11) 2 mn, ac cI (a 12) 2 pr, ac cI (a 13) 2 hg, ac cI (a 14) 2 al, ac cI (a 15) 2 sd] H → va_D A [yc a Y, ac cI (a 2) 11 ru, ac cI (a 6) 48 ic, ac cI (a 7) 48 wm, ac cI (a 8) 48 ga, ac cI (a 9) 48 fe, ac cI (a 10) 48 dr, ac cI (a 11) 2 mn, ac cI (a 12) 2 pr, ac cI (a 13) 2 hg, ac cI (a 14) 2 al, ac cI (a 15) 2 sd] → va_S A s.heap H locs → W p l e (RM 5 118) s m args below meth c H locs 0 0 Q (F0 m 129 ls [.int (mg_X5_goOn_114 Y ru pr w sh i ic)]) := by
            intro ls H locs hl hP hD hS
            refine lv_istore (lv' := [(9, .int (mg_X5_goOn_114 Y ru pr w sh i ic)), (0, .ref (a 0)), (1, .int w), (2, .int sh), (3, .int se), (4, .int sm), (5, .int i), (6, .int ((24 * w) + i)), (7, .int (r_X5_warmthOf Y ru ic pr w i sh)), (8, .int ((100 * ((ru 0) - (ic (Int32.toNatClampNeg ((24 * w) + i))))) / (ru 0)))]) hx hb dX5_goOn_129 hl (by decide) rfl (fun ls hl => ?_)
            refine lv_aload_n hx hb dX5_goOn_131 rfl (lv_at hl 1 rfl) ?_
            refine kget (v := .ref (a 7)) C hP igX5 rfl 7 (by decide) wd_2_153 0 rfl rfl dX5_goOn_132 ?_
            refine lv_iload hx hb dX5_goOn_135 (lv_at hl 7 rfl) ?_
            refine lv_iload hx hb dX5_goOn_137 (lv_at hl 8 rfl) ?_
            refine kast (ws' := [yc a Y, ac cI (a 2) 11 ru, ac cI (a 6) 48 ic, ac cI (a 7) 48 (upd wm (Int32.toNatClampNeg ((24 * w) + i)) (r_X5_warmthOf Y ru ic pr w i sh)), ac cI (a 8) 48 ga, ac cI (a 9) 48 fe, ac cI (a 10) 48 dr, ac cI (a 11) 2 mn, ac cI (a 12) 2 pr, ac cI (a 13) 2 hg, ac cI (a 14) 2 al, ac cI (a 15) 2 sd]) C hP hD hS 3 rfl hk (k := (Int32.toNatClampNeg ((24 * w) + i))) rfl rfl dX5_goOn_139 (fun H locs hP hD hS => ?_)
            refine lv_aload_n hx hb dX5_goOn_140 rfl (lv_at hl 1 rfl) ?_
            refine kget (v := .ref (a 8)) C hP igX5 rfl 8 (by decide) wd_2_154 0 rfl rfl dX5_goOn_141 ?_
            refine lv_iload hx hb dX5_goOn_144 (lv_at hl 7 rfl) ?_
            refine lv_iload hx hb dX5_goOn_146 (lv_at hl 0 rfl) ?_
            refine kast (ws' := [yc a Y, ac cI (a 2) 11 ru, ac cI (a 6) 48 ic, ac cI (a 7) 48 (upd wm (Int32.toNatClampNeg ((24 * w) + i)) (r_X5_warmthOf Y ru ic pr w i sh)), ac cI (a 8) 48 (upd ga (Int32.toNatClampNeg ((24 * w) + i)) (mg_X5_goOn_114 Y ru pr w sh i ic)), ac cI (a 9) 48 fe, ac cI (a 10) 48 dr, ac cI (a 11) 2 mn, ac cI (a 12) 2 pr, ac cI (a 13) 2 hg, ac cI (a 14) 2 al, ac cI (a 15) 2 sd]) C hP hD hS 4 rfl hk (k := (Int32.toNatClampNeg ((24 * w) + i))) rfl rfl dX5_goOn_148 (fun H locs hP hD hS => ?_)
            refine lv_aload_n hx hb dX5_goOn_149 rfl (lv_at hl 1 rfl) ?_
            refine kget (v := .ref (a 6)) C hP igX5 rfl 6 (by decide) wd_2_152 0 rfl rfl dX5_goOn_150 ?_
            refine lv_iload hx hb dX5_goOn_153 (lv_at hl 7 rfl) ?_
            refine lv_dup2_11 hx hb dX5_goOn_155 rfl rfl ?_
            refine kald C hP 2 rfl hk (k := (Int32.toNatClampNeg ((24 * w) + i))) rfl dX5_goOn_156 ?_
            refine lv_iload hx hb dX5_goOn_157 (lv_at hl 0 rfl) ?_
            refine lv_isub hx hb dX5_goOn_159 ?_
            refine kast (ws' := [yc a Y, ac cI (a 2) 11 ru, ac cI (a 6) 48 (upd ic (Int32.toNatClampNeg ((24 * w) + i)) ((ic (Int32.toNatClampNeg ((24 * w) + i))) - (mg_X5_goOn_114 Y ru pr w sh i ic))), ac cI (a 7) 48 (upd wm (Int32.toNatClampNeg ((24 * w) + i)) (r_X5_warmthOf Y ru ic pr w i sh)), ac cI (a 8) 48 (upd ga (Int32.toNatClampNeg ((24 * w) + i)) (mg_X5_goOn_114 Y ru pr w sh i ic)), ac cI (a 9) 48 fe, ac cI (a 10) 48 dr, ac cI (a 11) 2 mn, ac cI (a 12) 2 pr, ac cI (a 13) 2 hg, ac cI (a 14) 2 al, ac cI (a 15) 2 sd]) C hP hD hS 2 rfl hk (k := (Int32.toNatClampNeg ((24 * w) + i))) rfl rfl dX5_goOn_160 (fun H locs hP hD hS => ?_)
            refine lv_iload hx hb dX5_goOn_161 (lv_at hl 5 rfl) ?_
            refine lv_iload hx hb dX5_goOn_163 (lv_at hl 0 rfl) ?_
            refine lv_iadd hx hb dX5_goOn_165 ?_
            refine lv_istore (lv' := [(4, .int (sm + (mg_X5_goOn_114 Y ru pr w sh i ic))), (9, .int (mg_X5_goOn_114 Y ru pr w sh i ic)), (0, .ref (a 0)), (1, .int w), (2, .int sh), (3, .int se), (5, .int i), (6, .int ((24 * w) + i)), (7, .int (r_X5_warmthOf Y ru ic pr w i sh)), (8, .int ((100 * ((ru 0) - (ic (Int32.toNatClampNeg ((24 * w) + i))))) / (ru 0)))]) hx hb dX5_goOn_166 hl (by decide) rfl (fun ls hl => ?_)
            refine lv_aload_n hx hb dX5_goOn_168 rfl (lv_at hl 2 rfl) ?_
            refine kget (v := .ref (a 9)) C hP igX5 rfl 9 (by decide) wd_2_155 0 rfl rfl dX5_goOn_169 ?_
            refine lv_iload hx hb dX5_goOn_172 (lv_at hl 7 rfl) ?_
            refine lv_iload hx hb dX5_goOn_174 (lv_at hl 8 rfl) ?_
            refine lv_aload_n hx hb dX5_goOn_176 rfl (lv_at hl 2 rfl) ?_
            refine kget (v := .ref (a 2)) C hP igX5 rfl 2 (by decide) wd_2_148 0 rfl rfl dX5_goOn_177 ?_
            refine lv_bipush (v := 6) hx hb dX5_goOn_180 (by decide) ?_
            refine kald C hP 1 rfl (vp_in_iff.mpr (by decide)) (k := 6) rfl dX5_goOn_182 ?_
            have j212 : ∀ (ls : Array Slot) (H : Heap) (locs : List Loc), lv_has ls 10 [(0, .ref (a 0)), (1, .int w), (2, .int sh), (3, .int se), (4, .int (sm + (mg_X5_goOn_114 Y ru pr w sh i ic))), (5, .int i), (6, .int ((24 * w) + i)), (7, .int (r_X5_warmthOf Y ru ic pr w i sh)), (8, .int ((100 * ((ru 0) - (ic (Int32.toNatClampNeg ((24 * w) + i))))) / (ru 0))), (9, .int (mg_X5_goOn_114 Y ru pr w sh i ic))] → va_P D vwCl [yc a Y, ac cI (a 2) 11 ru, ac cI (a 6) 48 (upd ic (Int32.toNatClampNeg ((24 * w) + i)) ((ic (Int32.toNatClampNeg ((24 * w) + i))) - (mg_X5_goOn_114 Y ru pr w sh i ic))), ac cI (a 7) 48 (upd wm (Int32.toNatClampNeg ((24 * w) + i)) (r_X5_warmthOf Y ru ic pr w i sh)), ac cI (a 8) 48 (upd ga (Int32.toNatClampNeg ((24 * w) + i)) (mg_X5_goOn_114 Y ru pr w sh i ic)), ac cI (a 9) 48 fe, ac cI (a 10) 48 dr, ac cI (a 11) 2 mn, ac cI (a 12) 2 pr, ac cI (a 13) 2 hg, ac cI (a 14) 2 al, ac cI (a 15) 2 sd] H → va_D A [yc a Y, ac cI (a 2) 11 ru, ac cI (a 6) 48 (upd ic (Int32.toNatClampNeg ((24 * w) + i)) ((ic (Int32.toNatClampNeg ((24 * w) + i))) - (mg_X5_goOn_114 Y ru pr w sh i ic))), ac cI (a 7) 48 (upd wm (Int32.toNatClampNeg ((24 * w) + i)) (r_X5_warmthOf Y ru ic pr w i sh)), ac cI (a 8) 48 (upd ga (Int32.toNatClampNeg ((24 * w) + i)) (mg_X5_goOn_114 Y ru pr w sh i ic)), ac cI (a 9) 48 fe, ac cI (a 10) 48 dr, ac cI (a 11) 2 mn, ac cI (a 12) 2 pr, ac cI (a 13) 2 hg, ac cI (a 14) 2 al, ac cI (a 15) 2 sd] → va_S A s.heap H locs → W p l e (RM 5 118) s m args below meth c H locs 0 0 Q (F0 m 212 ls [.int (mg_X5_goOn_183 Y ru mn pr w sh i ic fe), .int ((24 * w) + i), .ref (a 9)]) := by
              intro ls H locs hl hP hD hS
              refine kast (ws' := [yc a Y, ac cI (a 2) 11 ru, ac cI (a 6) 48 (upd ic (Int32.toNatClampNeg ((24 * w) + i)) ((ic (Int32.toNatClampNeg ((24 * w) + i))) - (mg_X5_goOn_114 Y ru pr w sh i ic))), ac cI (a 7) 48 (upd wm (Int32.toNatClampNeg ((24 * w) + i)) (r_X5_warmthOf Y ru ic pr w i sh)), ac cI (a 8) 48 (upd ga (Int32.toNatClampNeg ((24 * w) + i)) (mg_X5_goOn_114 Y ru pr w sh i ic)), ac cI (a 9) 48 (upd fe (Int32.toNatClampNeg ((24 * w) + i)) (mg_X5_goOn_183 Y ru mn pr w sh i ic fe)), ac cI (a 10) 48 dr, ac cI (a 11) 2 mn, ac cI (a 12) 2 pr, ac cI (a 13) 2 hg, ac cI (a 14) 2 al, ac cI (a 15) 2 sd]) C hP hD hS 5 rfl hk (k := (Int32.toNatClampNeg ((24 * w) + i))) rfl rfl dX5_goOn_212 (fun H locs hP hD hS => ?_)
              refine lv_aload_n hx hb dX5_goOn_213 rfl (lv_at hl 0 rfl) ?_
              refine kget (v := .ref (a 10)) C hP igX5 rfl 10 (by decide) wd_2_156 0 rfl rfl dX5_goOn_214 ?_
              refine lv_iload hx hb dX5_goOn_217 (lv_at hl 6 rfl) ?_
              refine lv_aload_n hx hb dX5_goOn_219 rfl (lv_at hl 0 rfl) ?_
              refine kget (v := .ref (a 6)) C hP igX5 rfl 6 (by decide) wd_2_152 0 rfl rfl dX5_goOn_220 ?_
              refine lv_iload hx hb dX5_goOn_223 (lv_at hl 6 rfl) ?_
              refine kald C hP 2 rfl hk (k := (Int32.toNatClampNeg ((24 * w) + i))) rfl dX5_goOn_225 ?_
              have j245 : ∀ (ls : Array Slot) (H : Heap) (locs : List Loc), lv_has ls 10 [(0, .ref (a 0)), (1, .int w), (2, .int sh), (3, .int se), (4, .int (sm + (mg_X5_goOn_114 Y ru pr w sh i ic))), (5, .int i), (6, .int ((24 * w) + i)), (7, .int (r_X5_warmthOf Y ru ic pr w i sh)), (8, .int ((100 * ((ru 0) - (ic (Int32.toNatClampNeg ((24 * w) + i))))) / (ru 0))), (9, .int (mg_X5_goOn_114 Y ru pr w sh i ic))] → va_P D vwCl [yc a Y, ac cI (a 2) 11 ru, ac cI (a 6) 48 (upd ic (Int32.toNatClampNeg ((24 * w) + i)) ((ic (Int32.toNatClampNeg ((24 * w) + i))) - (mg_X5_goOn_114 Y ru pr w sh i ic))), ac cI (a 7) 48 (upd wm (Int32.toNatClampNeg ((24 * w) + i)) (r_X5_warmthOf Y ru ic pr w i sh)), ac cI (a 8) 48 (upd ga (Int32.toNatClampNeg ((24 * w) + i)) (mg_X5_goOn_114 Y ru pr w sh i ic)), ac cI (a 9) 48 (upd fe (Int32.toNatClampNeg ((24 * w) + i)) (mg_X5_goOn_183 Y ru mn pr w sh i ic fe)), ac cI (a 10) 48 dr, ac cI (a 11) 2 mn, ac cI (a 12) 2 pr, ac cI (a 13) 2 hg, ac cI (a 14) 2 al, ac cI (a 15) 2 sd] H → va_D A [yc a Y, ac cI (a 2) 11 ru, ac cI (a 6) 48 (upd ic (Int32.toNatClampNeg ((24 * w) + i)) ((ic (Int32.toNatClampNeg ((24 * w) + i))) - (mg_X5_goOn_114 Y ru pr w sh i ic))), ac cI (a 7) 48 (upd wm (Int32.toNatClampNeg ((24 * w) + i)) (r_X5_warmthOf Y ru ic pr w i sh)), ac cI (a 8) 48 (upd ga (Int32.toNatClampNeg ((24 * w) + i)) (mg_X5_goOn_114 Y ru pr w sh i ic)), ac cI (a 9) 48 (upd fe (Int32.toNatClampNeg ((24 * w) + i)) (mg_X5_goOn_183 Y ru mn pr w sh i ic fe)), ac cI (a 10) 48 dr, ac cI (a 11) 2 mn, ac cI (a 12) 2 pr, ac cI (a 13) 2 hg, ac cI (a 14) 2 al, ac cI (a 15) 2 sd] → va_S A s.heap H locs → W p l e (RM 5 118) s m args below meth c H locs 0 0 Q (F0 m 245 ls [.int (mg_X5_goOn_226 Y ru mn pr w sh i ic dr), .int ((24 * w) + i), .ref (a 10)]) := by
                intro ls H locs hl hP hD hS
                refine kast (ws' := [yc a Y, ac cI (a 2) 11 ru, ac cI (a 6) 48 (upd ic (Int32.toNatClampNeg ((24 * w) + i)) ((ic (Int32.toNatClampNeg ((24 * w) + i))) - (mg_X5_goOn_114 Y ru pr w sh i ic))), ac cI (a 7) 48 (upd wm (Int32.toNatClampNeg ((24 * w) + i)) (r_X5_warmthOf Y ru ic pr w i sh)), ac cI (a 8) 48 (upd ga (Int32.toNatClampNeg ((24 * w) + i)) (mg_X5_goOn_114 Y ru pr w sh i ic)), ac cI (a 9) 48 (upd fe (Int32.toNatClampNeg ((24 * w) + i)) (mg_X5_goOn_183 Y ru mn pr w sh i ic fe)), ac cI (a 10) 48 (upd dr (Int32.toNatClampNeg ((24 * w) + i)) (mg_X5_goOn_226 Y ru mn pr w sh i ic dr)), ac cI (a 11) 2 mn, ac cI (a 12) 2 pr, ac cI (a 13) 2 hg, ac cI (a 14) 2 al, ac cI (a 15) 2 sd]) C hP hD hS 6 rfl hk (k := (Int32.toNatClampNeg ((24 * w) + i))) rfl rfl dX5_goOn_245 (fun H locs hP hD hS => ?_)
                refine lv_iinc (v := (i + 1)) (lv' := [(5, .int (i + 1)), (0, .ref (a 0)), (1, .int w), (2, .int sh), (3, .int se), (4, .int (sm + (mg_X5_goOn_114 Y ru pr w sh i ic))), (6, .int ((24 * w) + i)), (7, .int (r_X5_warmthOf Y ru ic pr w i sh)), (8, .int ((100 * ((ru 0) - (ic (Int32.toNatClampNeg ((24 * w) + i))))) / (ru 0))), (9, .int (mg_X5_goOn_114 Y ru pr w sh i ic))]) hx hb dX5_goOn_246 hl (k := 5) rfl rfl (by decide) rfl (fun ls hl => ?_)
                refine lv_goto (tgt := 6) hx hb dX5_goOn_249 (by decide) ?_
                exact ih (sm + (mg_X5_goOn_114 Y ru pr w sh i ic)) (i + 1) (upd ic (Int32.toNatClampNeg ((24 * w) + i)) ((ic (Int32.toNatClampNeg ((24 * w) + i))) - (mg_X5_goOn_114 Y ru pr w sh i ic))) (upd wm (Int32.toNatClampNeg ((24 * w) + i)) (r_X5_warmthOf Y ru ic pr w i sh)) (upd ga (Int32.toNatClampNeg ((24 * w) + i)) (mg_X5_goOn_114 Y ru pr w sh i ic)) (upd fe (Int32.toNatClampNeg ((24 * w) + i)) (mg_X5_goOn_183 Y ru mn pr w sh i ic fe)) (upd dr (Int32.toNatClampNeg ((24 * w) + i)) (mg_X5_goOn_226 Y ru mn pr w sh i ic dr)) (inc0 h0 c1) (okB_upd hw h0 hv c1 hI) (cnt2_lt c1 hm) (by rw [← ho_ic, lq_X5_goOn_6_ic, if_neg c1, if_neg c6]) (by rw [← ho_wm, lq_X5_goOn_6_wm, if_neg c1, if_neg c6]) (by rw [← ho_ga, lq_X5_goOn_6_ga, if_neg c1, if_neg c6]) (by rw [← ho_fe, lq_X5_goOn_6_fe, if_neg c1, if_neg c6]) (by rw [← ho_dr, lq_X5_goOn_6_dr, if_neg c1, if_neg c6]) (by rw [← ho_mn, lq_X5_goOn_6_mn, if_neg c1, if_neg c6]) (by rw [← ho_pr, lq_X5_goOn_6_pr, if_neg c1, if_neg c6]) (by rw [← ho_hg, lq_X5_goOn_6_hg, if_neg c1, if_neg c6]) (by rw [← ho_al, lq_X5_goOn_6_al, if_neg c1, if_neg c6]) (by rw [← ho_sd, lq_X5_goOn_6_sd, if_neg c1, if_neg c6]) ls H locs (lv_sub hl [1, 2, 3, 4, 5, 0] rfl) hP hD hS
              refine lv_if_ne (tgt := 238) hx hb dX5_goOn_226 (by decide) (fun c10 => ?_) (fun c10 => ?_)
              · refine lv_aload_n hx hb dX5_goOn_238 rfl (lv_at hl 0 rfl) ?_
                refine kget (v := .ref (a 10)) C hP igX5 rfl 10 (by decide) wd_2_156 0 rfl rfl dX5_goOn_239 ?_
                refine lv_iload hx hb dX5_goOn_242 (lv_at hl 6 rfl) ?_
                refine kald C hP 6 rfl hk (k := (Int32.toNatClampNeg ((24 * w) + i))) rfl dX5_goOn_244 ?_
                have e_mg_X5_goOn_226 : (mg_X5_goOn_226 Y ru mn pr w sh i ic dr) = (dr (Int32.toNatClampNeg ((24 * w) + i))) := by rw [mg_X5_goOn_226, if_neg c10]
                have jj := j245
                rw [e_mg_X5_goOn_226] at jj
                exact jj ls H locs (lv_sub hl [0, 1, 2, 3, 4, 5, 6, 7, 8, 9] rfl) hP hD hS
              · refine lv_aload_n hx hb dX5_goOn_229 rfl (lv_at hl 0 rfl) ?_
                refine kget (v := .ref (a 11)) C hP igX5 rfl 11 (by decide) wd_2_157 0 rfl rfl dX5_goOn_230 ?_
                refine lv_iload_n hx hb dX5_goOn_233 rfl (lv_at hl 1 rfl) ?_
                refine kald C hP 7 rfl (in2 hw) (k := (Int32.toNatClampNeg w)) rfl dX5_goOn_234 ?_
                refine lv_goto (tgt := 245) hx hb dX5_goOn_235 (by decide) ?_
                have e_mg_X5_goOn_226 : (mg_X5_goOn_226 Y ru mn pr w sh i ic dr) = (mn (Int32.toNatClampNeg w)) := by rw [mg_X5_goOn_226, if_pos c10]
                have jj := j245
                rw [e_mg_X5_goOn_226] at jj
                exact jj ls H locs (lv_sub hl [0, 1, 2, 3, 4, 5, 6, 7, 8, 9] rfl) hP hD hS
            refine lv_icmp_le (tgt := 205) hx hb dX5_goOn_183 (by decide) (fun c8 => ?_) (fun c8 => ?_)
            · refine lv_aload_n hx hb dX5_goOn_205 rfl (lv_at hl 2 rfl) ?_
              refine kget (v := .ref (a 9)) C hP igX5 rfl 9 (by decide) wd_2_155 0 rfl rfl dX5_goOn_206 ?_
              refine lv_iload hx hb dX5_goOn_209 (lv_at hl 7 rfl) ?_
              refine kald C hP 5 rfl hk (k := (Int32.toNatClampNeg ((24 * w) + i))) rfl dX5_goOn_211 ?_
              have e_mg_X5_goOn_183 : (mg_X5_goOn_183 Y ru mn pr w sh i ic fe) = (fe (Int32.toNatClampNeg ((24 * w) + i))) := by rw [mg_X5_goOn_183, if_pos c8]
              have jj := j212
              rw [e_mg_X5_goOn_183] at jj
              exact jj ls H locs (lv_sub hl [2, 3, 4, 5, 0, 6, 7, 8, 9, 1] rfl) hP hD hS
            · refine lv_aload_n hx hb dX5_goOn_186 rfl (lv_at hl 2 rfl) ?_
              refine kget (v := .ref (a 9)) C hP igX5 rfl 9 (by decide) wd_2_155 0 rfl rfl dX5_goOn_187 ?_
              refine lv_iload hx hb dX5_goOn_190 (lv_at hl 7 rfl) ?_
              refine kald C hP 5 rfl hk (k := (Int32.toNatClampNeg ((24 * w) + i))) rfl dX5_goOn_192 ?_
              refine lv_if_ge (tgt := 205) hx hb dX5_goOn_193 (by decide) (fun c9 => ?_) (fun c9 => ?_)
              · refine lv_aload_n hx hb dX5_goOn_205 rfl (lv_at hl 2 rfl) ?_
                refine kget (v := .ref (a 9)) C hP igX5 rfl 9 (by decide) wd_2_155 0 rfl rfl dX5_goOn_206 ?_
                refine lv_iload hx hb dX5_goOn_209 (lv_at hl 7 rfl) ?_
                refine kald C hP 5 rfl hk (k := (Int32.toNatClampNeg ((24 * w) + i))) rfl dX5_goOn_211 ?_
                have e_mg_X5_goOn_183 : (mg_X5_goOn_183 Y ru mn pr w sh i ic fe) = (fe (Int32.toNatClampNeg ((24 * w) + i))) := by rw [mg_X5_goOn_183, if_neg c8, if_pos c9]
                have jj := j212
                rw [e_mg_X5_goOn_183] at jj
                exact jj ls H locs (lv_sub hl [2, 3, 4, 5, 0, 6, 7, 8, 9, 1] rfl) hP hD hS
              · refine lv_aload_n hx hb dX5_goOn_196 rfl (lv_at hl 2 rfl) ?_
                refine kget (v := .ref (a 11)) C hP igX5 rfl 11 (by decide) wd_2_157 0 rfl rfl dX5_goOn_197 ?_
                refine lv_iload_n hx hb dX5_goOn_200 rfl (lv_at hl 3 rfl) ?_
                refine kald C hP 7 rfl (in2 hw) (k := (Int32.toNatClampNeg w)) rfl dX5_goOn_201 ?_
                refine lv_goto (tgt := 212) hx hb dX5_goOn_202 (by decide) ?_
                have e_mg_X5_goOn_183 : (mg_X5_goOn_183 Y ru mn pr w sh i ic fe) = (mn (Int32.toNatClampNeg w)) := by rw [mg_X5_goOn_183, if_neg c8, if_neg c9]
                have jj := j212
                rw [e_mg_X5_goOn_183] at jj
                exact jj ls H locs (lv_sub hl [2, 3, 4, 5, 0, 6, 7, 8, 9, 1] rfl) hP hD hS
          refine lv_icmp_ge (tgt := 122) hx hb dX5_goOn_114 (by decide) (fun c7 => ?_) (fun c7 => ?_)
          · refine lv_aload_n hx hb dX5_goOn_122 rfl (lv_at hl 4 rfl) ?_
            refine kget (v := .ref (a 6)) C hP igX5 rfl 6 (by decide) wd_2_152 0 rfl rfl dX5_goOn_123 ?_
            refine lv_iload hx hb dX5_goOn_126 (lv_at hl 3 rfl) ?_
            refine kald C hP 2 rfl hk (k := (Int32.toNatClampNeg ((24 * w) + i))) rfl dX5_goOn_128 ?_
            have e_mg_X5_goOn_114 : (mg_X5_goOn_114 Y ru pr w sh i ic) = (ic (Int32.toNatClampNeg ((24 * w) + i))) := by rw [mg_X5_goOn_114, if_pos c7]
            have jj := j129
            rw [e_mg_X5_goOn_114] at jj
            exact jj ls H locs (lv_sub hl [4, 5, 6, 7, 8, 9, 3, 2, 1, 0] rfl) hP hD hS
          · refine lv_iload hx hb dX5_goOn_117 (lv_at hl 0 rfl) ?_
            refine lv_goto (tgt := 129) hx hb dX5_goOn_119 (by decide) ?_
            have e_mg_X5_goOn_114 : (mg_X5_goOn_114 Y ru pr w sh i ic) = (r_X5_steamAt ru (r_X5_warmthOf Y ru ic pr w i sh) ((100 * ((ru 0) - (ic (Int32.toNatClampNeg ((24 * w) + i))))) / (ru 0)) (pr (Int32.toNatClampNeg w))) := by rw [mg_X5_goOn_114, if_neg c7]
            have jj := j129
            rw [e_mg_X5_goOn_114] at jj
            exact jj ls H locs (lv_sub hl [4, 5, 6, 7, 8, 9, 3, 2, 1, 0] rfl) hP hD hS
        · refine lv_aload_n hx hb dX5_goOn_34 rfl (lv_at hl 1 rfl) ?_
          refine kget (v := .ref (a 7)) C hP igX5 rfl 7 (by decide) wd_2_153 0 rfl rfl dX5_goOn_35 ?_
          refine lv_iload hx hb dX5_goOn_38 (lv_at hl 0 rfl) ?_
          refine lv_iload_n hx hb dX5_goOn_40 rfl (lv_at hl 3 rfl) ?_
          refine kast (ws' := [yc a Y, ac cI (a 2) 11 ru, ac cI (a 6) 48 ic, ac cI (a 7) 48 (upd wm (Int32.toNatClampNeg ((24 * w) + i)) sh), ac cI (a 8) 48 ga, ac cI (a 9) 48 fe, ac cI (a 10) 48 dr, ac cI (a 11) 2 mn, ac cI (a 12) 2 pr, ac cI (a 13) 2 hg, ac cI (a 14) 2 al, ac cI (a 15) 2 sd]) C hP hD hS 3 rfl hk (k := (Int32.toNatClampNeg ((24 * w) + i))) rfl rfl dX5_goOn_41 (fun H locs hP hD hS => ?_)
          refine lv_aload_n hx hb dX5_goOn_42 rfl (lv_at hl 1 rfl) ?_
          refine kget (v := .ref (a 8)) C hP igX5 rfl 8 (by decide) wd_2_154 0 rfl rfl dX5_goOn_43 ?_
          refine lv_iload hx hb dX5_goOn_46 (lv_at hl 0 rfl) ?_
          refine lv_iconst (v := 0) hx hb dX5_goOn_48 (by decide) ?_
          refine kast (ws' := [yc a Y, ac cI (a 2) 11 ru, ac cI (a 6) 48 ic, ac cI (a 7) 48 (upd wm (Int32.toNatClampNeg ((24 * w) + i)) sh), ac cI (a 8) 48 (upd ga (Int32.toNatClampNeg ((24 * w) + i)) 0), ac cI (a 9) 48 fe, ac cI (a 10) 48 dr, ac cI (a 11) 2 mn, ac cI (a 12) 2 pr, ac cI (a 13) 2 hg, ac cI (a 14) 2 al, ac cI (a 15) 2 sd]) C hP hD hS 4 rfl hk (k := (Int32.toNatClampNeg ((24 * w) + i))) rfl rfl dX5_goOn_49 (fun H locs hP hD hS => ?_)
          refine lv_goto (tgt := 246) hx hb dX5_goOn_50 (by decide) ?_
          refine lv_iinc (v := (i + 1)) (lv' := [(5, .int (i + 1)), (6, .int ((24 * w) + i)), (0, .ref (a 0)), (1, .int w), (2, .int sh), (3, .int se), (4, .int sm)]) hx hb dX5_goOn_246 hl (k := 6) rfl rfl (by decide) rfl (fun ls hl => ?_)
          refine lv_goto (tgt := 6) hx hb dX5_goOn_249 (by decide) ?_
          exact ih sm (i + 1) ic (upd wm (Int32.toNatClampNeg ((24 * w) + i)) sh) (upd ga (Int32.toNatClampNeg ((24 * w) + i)) 0) fe dr (inc0 h0 c1) (okB_next h0 c1 hI) (cnt2_lt c1 hm) (by rw [← ho_ic, lq_X5_goOn_6_ic, if_neg c1, if_pos c6]) (by rw [← ho_wm, lq_X5_goOn_6_wm, if_neg c1, if_pos c6]) (by rw [← ho_ga, lq_X5_goOn_6_ga, if_neg c1, if_pos c6]) (by rw [← ho_fe, lq_X5_goOn_6_fe, if_neg c1, if_pos c6]) (by rw [← ho_dr, lq_X5_goOn_6_dr, if_neg c1, if_pos c6]) (by rw [← ho_mn, lq_X5_goOn_6_mn, if_neg c1, if_pos c6]) (by rw [← ho_pr, lq_X5_goOn_6_pr, if_neg c1, if_pos c6]) (by rw [← ho_hg, lq_X5_goOn_6_hg, if_neg c1, if_pos c6]) (by rw [← ho_al, lq_X5_goOn_6_al, if_neg c1, if_pos c6]) (by rw [← ho_sd, lq_X5_goOn_6_sd, if_neg c1, if_pos c6]) ls H locs (lv_sub hl [2, 3, 4, 5, 6, 0] rfl) hP hD hS
  exact lp6 (fu ((Int32.toInt (r_X5_vials Y)).toNat + 1)) 0 0 ic wm ga fe dr (by decide) hI (by rw [fu_eq]; have e0 : (0 : Int32).toInt = 0 := rfl; omega) (by rw [← ho_ic, q_X5_goOn_ic]) (by rw [← ho_wm, q_X5_goOn_wm]) (by rw [← ho_ga, q_X5_goOn_ga]) (by rw [← ho_fe, q_X5_goOn_fe]) (by rw [← ho_dr, q_X5_goOn_dr]) (by rw [← ho_mn, q_X5_goOn_mn]) (by rw [← ho_pr, q_X5_goOn_pr]) (by rw [← ho_hg, q_X5_goOn_hg]) (by rw [← ho_al, q_X5_goOn_al]) (by rw [← ho_sd, q_X5_goOn_sd]) ls H locs (lv_sub hl [2, 3, 4, 5, 1, 0] rfl) hP hD hS
end
section
theorem winJ {v a b : Int64} : (¬ r_X5_in v a b = 0) ↔ (a.toInt ≤ v.toInt ∧ v.toInt ≤ b.toInt) := by
  unfold r_X5_in
  by_cases h1 : lg_cmp v a < 0
  · rw [if_pos h1]
    have := Int64.lt_iff_toInt_lt.mp ((lg_cmp_lt v a).mp h1)
    constructor
    · intro h; exact absurd rfl h
    · intro h; omega
  · rw [if_neg h1]
    have h1' : ¬ v.toInt < a.toInt := fun h => h1 ((lg_cmp_lt v a).mpr (Int64.lt_iff_toInt_lt.mpr h))
    by_cases h2 : 0 < lg_cmp v b
    · rw [if_pos h2]
      have := Int64.lt_iff_toInt_lt.mp ((lg_cmp_gt v b).mp h2)
      constructor
      · intro h; exact absurd rfl h
      · intro h; omega
    · rw [if_neg h2]
      have h2' : ¬ b.toInt < v.toInt := fun h => h2 ((lg_cmp_gt v b).mpr (Int64.lt_iff_toInt_lt.mpr h))
      constructor
      · intro _; omega
      · intro _ h; exact absurd h (by decide)
theorem win {v : Int32} {a b : Int64} : (¬ r_X5_in (Int32.toInt64 v) a b = 0) ↔ (a.toInt ≤ v.toInt ∧ v.toInt ≤ b.toInt) := by
  rw [winJ, Int32.toInt_toInt64]
theorem in_rule {k : Int32} (h : ¬ r_X5_in (Int32.toInt64 k) 0 10 = 0) : vp_in k 11 := by
  have h := win.mp h
  have e0 : (0 : Int64).toInt = 0 := rfl
  have e1 : (10 : Int64).toInt = 10 := rfl
  exact vp_in_iff.mpr (by omega)
theorem in_tried {k : Int32} (h : ¬ r_X5_in (Int32.toInt64 k) 0 4 = 0) : vp_in k 5 := by
  have h := win.mp h
  have e0 : (0 : Int64).toInt = 0 := rfl
  have e1 : (4 : Int64).toInt = 4 := rfl
  exact vp_in_iff.mpr (by omega)
theorem in_told {k : Int32} (h : ¬ r_X5_in (Int32.toInt64 k) 10 20 = 0) : vp_in (k - 10) 11 := by
  have h := win.mp h
  have e0 : (10 : Int64).toInt = 10 := rfl
  have e1 : (20 : Int64).toInt = 20 := rfl
  have e2 : (10 : Int32).toInt = 10 := rfl
  exact vp_in_iff.mpr (by rw [subI (by omega) (by omega)]; omega)
theorem in_vial {k v : Int32} (h1 : 1 ≤ v.toInt) (h2 : v.toInt ≤ 24) (h : ¬ r_X5_in (Int32.toInt64 k) 0 (Int32.toInt64 (v - 1)) = 0) : vp_in k 48 := by
  have h := win.mp h
  have e0 : (0 : Int64).toInt = 0 := rfl
  have e2 : (1 : Int32).toInt = 1 := rfl
  rw [Int32.toInt_toInt64, subI (by omega) (by omega)] at h
  exact vp_in_iff.mpr (by omega)
theorem in_min1 {k v : Int32} (h2 : v.toInt ≤ 2000) (h : ¬ r_X5_in (Int32.toInt64 k) 1 (Int32.toInt64 v) = 0) : vp_in k 2001 := by
  have h := win.mp h
  have e0 : (1 : Int64).toInt = 1 := rfl
  rw [Int32.toInt_toInt64] at h
  exact vp_in_iff.mpr (by omega)
theorem in_min0 {k v : Int32} (h2 : v.toInt ≤ 2000) (h : ¬ r_X5_in (Int32.toInt64 k) 0 (Int32.toInt64 v) = 0) : vp_in k 2001 := by
  have h := win.mp h
  have e0 : (0 : Int64).toInt = 0 := rfl
  rw [Int32.toInt_toInt64] at h
  exact vp_in_iff.mpr (by omega)
theorem in_end {k v : Int32} (h2 : v.toInt ≤ 2000) (h1 : 1 ≤ k.toInt) (c : ¬ v < k) : vp_in k 2001 := by
  have c1 : ¬ v.toInt < k.toInt := fun z => c ((tI_lt v k).mpr z)
  exact vp_in_iff.mpr (by omega)
theorem inc_end {k v : Int32} (h2 : v.toInt ≤ 2000) (h1 : 1 ≤ k.toInt) (c : ¬ v < k) : 1 ≤ (k + 1).toInt := by
  have c1 : ¬ v.toInt < k.toInt := fun z => c ((tI_lt v k).mpr z)
  have e1 : (1 : Int32).toInt = 1 := rfl
  rw [addI (by omega) (by omega)]; omega
/-- the bounds of the rules -/
def RB (ru : Nat → Int32) : Prop := (100 ≤ (ru 0).toInt ∧ (ru 0).toInt ≤ 5000) ∧ (1 ≤ (ru 1).toInt ∧ (ru 1).toInt ≤ 50) ∧ (0 ≤ (ru 2).toInt ∧ (ru 2).toInt ≤ 50) ∧ (1 ≤ (ru 3).toInt ∧ (ru 3).toInt ≤ 50) ∧ (10 ≤ (ru 4).toInt ∧ (ru 4).toInt ≤ 1000) ∧ (0 ≤ (ru 5).toInt ∧ (ru 5).toInt ≤ 50) ∧ (-600 ≤ (ru 6).toInt ∧ (ru 6).toInt ≤ 0) ∧ (1 ≤ (ru 7).toInt ∧ (ru 7).toInt ≤ 10000) ∧ (1 ≤ (ru 8).toInt ∧ (ru 8).toInt ≤ 100) ∧ (1 ≤ (ru 9).toInt ∧ (ru 9).toInt ≤ 500) ∧ (1 ≤ (ru 10).toInt ∧ (ru 10).toInt ≤ 1000)
theorem mul_bd {x y a b : Int} (h1 : 0 ≤ x) (h2 : x ≤ a) (h3 : 0 ≤ y) (h4 : y ≤ b) : 0 ≤ x * y ∧ x * y ≤ a * b := ⟨Int.mul_nonneg h1 h3, Int.mul_le_mul h2 h4 h3 (Int.le_trans h1 h2)⟩
theorem bars_val {ru : Nat → Int32} (h : RB ru) {dd : Int32} (h1 : 0 ≤ dd.toInt) (h2 : dd.toInt ≤ 100) : ((ru 4) + ((ru 5) * dd)).toInt = (ru 4).toInt + (ru 5).toInt * dd.toInt ∧ 10 ≤ (ru 4).toInt + (ru 5).toInt * dd.toInt ∧ (ru 4).toInt + (ru 5).toInt * dd.toInt ≤ 6000 := by
  obtain ⟨-, -, -, -, h4, h5, -⟩ := h
  have hm := mul_bd h5.1 h5.2 h1 h2
  have e : ((ru 5) * dd).toInt = (ru 5).toInt * dd.toInt := mulI (by omega) (by omega)
  rw [addI (by omega) (by omega), e]
  omega
theorem bars_ne {ru : Nat → Int32} (h : RB ru) {dd : Int32} (h1 : 0 ≤ dd.toInt) (h2 : dd.toInt ≤ 100) : ¬ ((ru 4) + ((ru 5) * dd)) = 0 := by
  obtain ⟨e, hb, -⟩ := bars_val h h1 h2
  intro z
  rw [z] at e
  have e0 : (0 : Int32).toInt = 0 := rfl
  omega
theorem bars_st {ru : Nat → Int32} (h : RB ru) {dd : Int32} (c : ¬ r_X5_in (Int32.toInt64 dd) 0 100 = 0) : ¬ ((ru 4) + ((ru 5) * dd)) = 0 := by
  have c := win.mp c
  have e0 : (0 : Int64).toInt = 0 := rfl
  have e1 : (100 : Int64).toInt = 100 := rfl
  exact bars_ne h (by omega) (by omega)
def r_X5_shelf (Y : Nat → Int32) (rw : Int32) (cl : Int32) : Int32 := (if (r_X5_in (Int32.toInt64 rw) 1 4) = 0 then (-2) else (if (r_X5_in (Int32.toInt64 cl) 1 6) = 0 then (-2) else (if (Y 3) = 0 then (r_X5_vials (y21 rw cl (Y 3) (Y 4) (Y 5) (Y 19))) else (-3))))
def q_X5_shelf_Y (Y : Nat → Int32) (rw : Int32) (cl : Int32) : Nat → Int32 := (if (r_X5_in (Int32.toInt64 rw) 1 4) = 0 then Y else (if (r_X5_in (Int32.toInt64 cl) 1 6) = 0 then Y else (if (Y 3) = 0 then (y21 rw cl (Y 3) (Y 4) (Y 5) (Y 19)) else Y)))
theorem ck_X5_shelf : CK yX5_shelf cX5_shelf 3 (some .int) 2 := ⟨wd_2_213, wd_1_7, by decide, by decide, by decide +kernel⟩
set_option maxHeartbeats 4000000 in
set_option maxRecDepth 100000 in
theorem c_X5_shelf (l : Launch) (D : va_G) (cI : ClassId) (a : Nat → Nat) (Y : Nat → Int32) (rw : Int32) (cl : Int32) : MI l D cI yX5_shelf cX5_shelf 3 (some .int) 1 25 [.ref (a 0), .int rw, .int cl] [yc a Y] (r_X5_shelf Y rw cl) [yc a (q_X5_shelf_Y Y rw cl)] := by
  generalize hr : (r_X5_shelf Y rw cl) = r
  generalize ho_Y : (q_X5_shelf_Y Y rw cl) = o_Y
  refine MI.mk (own := RX5) rfl (by decide) rfl (Nat.le_of_ble_eq_true rfl) ?_
  intro p e s m args below meth c A Q C hD hend H locs ls hP hS hl
  have hx := C.1.1
  have hb := C.1.2.1
  have hl : lv_has ls 3 [(0, .ref (a 0)), (1, .int rw), (2, .int cl)] := hl
  refine lv_iload_n hx hb dX5_shelf_0 rfl (lv_at hl 1 rfl) ?_
  refine lv_i2l (v := (Int32.toInt64 rw)) hx hb dX5_shelf_1 rfl ?_
  refine lv_lconst (v := 1) hx hb dX5_shelf_2 (by decide) ?_
  refine kldc2 (v := 4) C wd_2_214 dX5_shelf_3 ?_
  refine go_i (ws' := [yc a Y]) C (rn_S (As := [.long (Int32.toInt64 rw), .long 1, .long 4]) (rest := []) C (c_X5_in l D cI (Int32.toInt64 rw) 1 4 H.size) ck_X5_in wd_2_216 wd_2_215 ⟨Nat.le_of_ble_eq_true rfl, Nat.le_of_ble_eq_true rfl⟩ ⟨Nat.le_refl _, Nat.le_refl _⟩ hP hD hS [] rfl rfl hl rfl (Nat.le_of_ble_eq_true rfl) dX5_shelf_6) hP hD hS [] rfl rfl rfl (fun H locs hP hD hS => ?_)
  refine lv_if_eq (tgt := 24) hx hb dX5_shelf_9 (by decide) (fun c1 => ?_) (fun c1 => ?_)
  · refine lv_bipush (v := (-2)) hx hb dX5_shelf_24 (by decide) ?_
    exact hend _ _ _ _ _ (by rw [← hr, r_X5_shelf, if_pos c1]) (by rw [← ho_Y, q_X5_shelf_Y, if_pos c1]; exact hP) hS dX5_shelf_26
  · refine lv_iload_n hx hb dX5_shelf_12 rfl (lv_at hl 2 rfl) ?_
    refine lv_i2l (v := (Int32.toInt64 cl)) hx hb dX5_shelf_13 rfl ?_
    refine lv_lconst (v := 1) hx hb dX5_shelf_14 (by decide) ?_
    refine kldc2 (v := 6) C wd_2_218 dX5_shelf_15 ?_
    refine go_i (ws' := [yc a Y]) C (rn_S (As := [.long (Int32.toInt64 cl), .long 1, .long 6]) (rest := []) C (c_X5_in l D cI (Int32.toInt64 cl) 1 6 H.size) ck_X5_in wd_2_216 wd_2_215 ⟨Nat.le_of_ble_eq_true rfl, Nat.le_of_ble_eq_true rfl⟩ ⟨Nat.le_refl _, Nat.le_refl _⟩ hP hD hS [] rfl rfl hl rfl (Nat.le_of_ble_eq_true rfl) dX5_shelf_18) hP hD hS [] rfl rfl rfl (fun H locs hP hD hS => ?_)
    refine lv_if_ne (tgt := 27) hx hb dX5_shelf_21 (by decide) (fun c2 => ?_) (fun c2 => ?_)
    · refine lv_aload_n hx hb dX5_shelf_27 rfl (lv_at hl 0 rfl) ?_
      refine kget (v := .int (Y 3)) C hP igX5 rfl 3 (by decide) wd_2_149 0 rfl rfl dX5_shelf_28 ?_
      refine lv_if_eq (tgt := 37) hx hb dX5_shelf_31 (by decide) (fun c3 => ?_) (fun c3 => ?_)
      · refine lv_aload_n hx hb dX5_shelf_37 rfl (lv_at hl 0 rfl) ?_
        refine lv_iload_n hx hb dX5_shelf_38 rfl (lv_at hl 1 rfl) ?_
        refine kput (ty := .int) (ws' := [yc a (y21 rw (Y 1) (Y 3) (Y 4) (Y 5) (Y 19))]) C hP hD hS igX5 tyX5_ok nmX5 rfl 0 (by decide) wd_2_146 rfl rfl rfl rfl 0 rfl (Nat.le_of_ble_eq_true rfl) rfl dX5_shelf_39 (fun H locs hP hD hS => ?_)
        refine lv_aload_n hx hb dX5_shelf_42 rfl (lv_at hl 0 rfl) ?_
        refine lv_iload_n hx hb dX5_shelf_43 rfl (lv_at hl 2 rfl) ?_
        refine kput (ty := .int) (ws' := [yc a (y21 rw cl (Y 3) (Y 4) (Y 5) (Y 19))]) C hP hD hS igX5 tyX5_ok nmX5 rfl 1 (by decide) wd_2_147 rfl rfl rfl rfl 0 rfl (Nat.le_of_ble_eq_true rfl) rfl dX5_shelf_44 (fun H locs hP hD hS => ?_)
        refine lv_aload_n hx hb dX5_shelf_47 rfl (lv_at hl 0 rfl) ?_
        refine go_i (ws' := [yc a (y21 rw cl (Y 3) (Y 4) (Y 5) (Y 19))]) C (rn_V (As := []) (rest := []) C (c_X5_vials l D cI a (y21 rw cl (Y 3) (Y 4) (Y 5) (Y 19)) H.size) ck_X5_vials wd_2_221 wd_0_5 wd_2_219 ⟨Nat.le_of_ble_eq_true rfl, Nat.le_of_ble_eq_true rfl⟩ ⟨Nat.le_refl _, Nat.le_refl _⟩ (ci := 5) (q0 := 0) rfl rfl hP hD hS [0] rfl rfl hl rfl (Nat.le_of_ble_eq_true rfl) dX5_shelf_48) hP hD hS [0] rfl rfl rfl (fun H locs hP hD hS => ?_)
        exact hend _ _ _ _ _ (by rw [← hr, r_X5_shelf, if_neg c1, if_neg c2, if_pos c3]) (by rw [← ho_Y, q_X5_shelf_Y, if_neg c1, if_neg c2, if_pos c3]; exact hP) hS dX5_shelf_51
      · refine lv_bipush (v := (-3)) hx hb dX5_shelf_34 (by decide) ?_
        exact hend _ _ _ _ _ (by rw [← hr, r_X5_shelf, if_neg c1, if_neg c2, if_neg c3]) (by rw [← ho_Y, q_X5_shelf_Y, if_neg c1, if_neg c2, if_neg c3]; exact hP) hS dX5_shelf_36
    · refine lv_bipush (v := (-2)) hx hb dX5_shelf_24 (by decide) ?_
      exact hend _ _ _ _ _ (by rw [← hr, r_X5_shelf, if_neg c1, if_pos c2]) (by rw [← ho_Y, q_X5_shelf_Y, if_neg c1, if_pos c2]; exact hP) hS dX5_shelf_26
def r_X5_rule (Y : Nat → Int32) (ru : Nat → Int32) (k : Int32) (v : Int32) : Int32 := (if (r_X5_in (Int32.toInt64 k) 0 10) = 0 then (-10001) else (if (r_X5_in (Int32.toInt64 v) (Int32.toInt64 (r_X5_leastOf k)) (Int32.toInt64 (r_X5_mostOf k))) = 0 then (-10002) else (if (Y 3) = 0 then (ru (Int32.toNatClampNeg k)) else (-10003))))
def q_X5_rule_ru (Y : Nat → Int32) (ru : Nat → Int32) (k : Int32) (v : Int32) : Nat → Int32 := (if (r_X5_in (Int32.toInt64 k) 0 10) = 0 then ru else (if (r_X5_in (Int32.toInt64 v) (Int32.toInt64 (r_X5_leastOf k)) (Int32.toInt64 (r_X5_mostOf k))) = 0 then ru else (if (Y 3) = 0 then (upd ru (Int32.toNatClampNeg k) v) else ru)))
theorem ck_X5_rule : CK yX5_rule cX5_rule 4 (some .int) 2 := ⟨wd_2_226, wd_1_7, by decide, by decide, by decide +kernel⟩
set_option maxHeartbeats 4000000 in
set_option maxRecDepth 100000 in
theorem c_X5_rule (l : Launch) (D : va_G) (cI : ClassId) (a : Nat → Nat) (Y : Nat → Int32) (ru : Nat → Int32) (k : Int32) (v : Int32) : MI l D cI yX5_rule cX5_rule 4 (some .int) 1 25 [.ref (a 0), .int k, .int v] [yc a Y, ac cI (a 2) 11 ru] (r_X5_rule Y ru k v) [yc a Y, ac cI (a 2) 11 (q_X5_rule_ru Y ru k v)] := by
  generalize hr : (r_X5_rule Y ru k v) = r
  generalize ho_ru : (q_X5_rule_ru Y ru k v) = o_ru
  refine MI.mk (own := RX5) rfl (by decide) rfl (Nat.le_of_ble_eq_true rfl) ?_
  intro p e s m args below meth c A Q C hD hend H locs ls hP hS hl
  have hx := C.1.1
  have hb := C.1.2.1
  have hl : lv_has ls 4 [(0, .ref (a 0)), (1, .int k), (2, .int v)] := hl
  refine lv_iload_n hx hb dX5_rule_0 rfl (lv_at hl 1 rfl) ?_
  refine lv_i2l (v := (Int32.toInt64 k)) hx hb dX5_rule_1 rfl ?_
  refine lv_lconst (v := 0) hx hb dX5_rule_2 (by decide) ?_
  refine kldc2 (v := 10) C wd_2_227 dX5_rule_3 ?_
  refine go_i (ws' := [yc a Y, ac cI (a 2) 11 ru]) C (rn_S (As := [.long (Int32.toInt64 k), .long 0, .long 10]) (rest := []) C (c_X5_in l D cI (Int32.toInt64 k) 0 10 H.size) ck_X5_in wd_2_216 wd_2_215 ⟨Nat.le_of_ble_eq_true rfl, Nat.le_of_ble_eq_true rfl⟩ ⟨Nat.le_refl _, Nat.le_refl _⟩ hP hD hS [] rfl rfl hl rfl (Nat.le_of_ble_eq_true rfl) dX5_rule_6) hP hD hS [] rfl rfl rfl (fun H locs hP hD hS => ?_)
  refine lv_if_ne (tgt := 16) hx hb dX5_rule_9 (by decide) (fun c1 => ?_) (fun c1 => ?_)
  · refine lv_iload_n hx hb dX5_rule_16 rfl (lv_at hl 2 rfl) ?_
    refine lv_i2l (v := (Int32.toInt64 v)) hx hb dX5_rule_17 rfl ?_
    refine lv_iload_n hx hb dX5_rule_18 rfl (lv_at hl 1 rfl) ?_
    refine go_i (ws' := [yc a Y, ac cI (a 2) 11 ru]) C (rn_S (As := [.int k]) (rest := [.long (Int32.toInt64 v)]) C (c_X5_leastOf l D cI k H.size) ck_X5_leastOf wd_2_229 wd_2_228 ⟨Nat.le_of_ble_eq_true rfl, Nat.le_of_ble_eq_true rfl⟩ ⟨Nat.le_refl _, Nat.le_refl _⟩ hP hD hS [] rfl rfl hl rfl (Nat.le_of_ble_eq_true rfl) dX5_rule_19) hP hD hS [] rfl rfl rfl (fun H locs hP hD hS => ?_)
    refine lv_i2l (v := (Int32.toInt64 (r_X5_leastOf k))) hx hb dX5_rule_22 rfl ?_
    refine lv_iload_n hx hb dX5_rule_23 rfl (lv_at hl 1 rfl) ?_
    refine go_i (ws' := [yc a Y, ac cI (a 2) 11 ru]) C (rn_S (As := [.int k]) (rest := [.long (Int32.toInt64 (r_X5_leastOf k)), .long (Int32.toInt64 v)]) C (c_X5_mostOf l D cI k H.size) ck_X5_mostOf wd_2_232 wd_2_231 ⟨Nat.le_of_ble_eq_true rfl, Nat.le_of_ble_eq_true rfl⟩ ⟨Nat.le_refl _, Nat.le_refl _⟩ hP hD hS [] rfl rfl hl rfl (Nat.le_of_ble_eq_true rfl) dX5_rule_24) hP hD hS [] rfl rfl rfl (fun H locs hP hD hS => ?_)
    refine lv_i2l (v := (Int32.toInt64 (r_X5_mostOf k))) hx hb dX5_rule_27 rfl ?_
    refine go_i (ws' := [yc a Y, ac cI (a 2) 11 ru]) C (rn_S (As := [.long (Int32.toInt64 v), .long (Int32.toInt64 (r_X5_leastOf k)), .long (Int32.toInt64 (r_X5_mostOf k))]) (rest := []) C (c_X5_in l D cI (Int32.toInt64 v) (Int32.toInt64 (r_X5_leastOf k)) (Int32.toInt64 (r_X5_mostOf k)) H.size) ck_X5_in wd_2_216 wd_2_215 ⟨Nat.le_of_ble_eq_true rfl, Nat.le_of_ble_eq_true rfl⟩ ⟨Nat.le_refl _, Nat.le_refl _⟩ hP hD hS [] rfl rfl hl rfl (Nat.le_of_ble_eq_true rfl) dX5_rule_28) hP hD hS [] rfl rfl rfl (fun H locs hP hD hS => ?_)
    refine lv_if_ne (tgt := 38) hx hb dX5_rule_31 (by decide) (fun c2 => ?_) (fun c2 => ?_)
    · refine lv_aload_n hx hb dX5_rule_38 rfl (lv_at hl 0 rfl) ?_
      refine kget (v := .int (Y 3)) C hP igX5 rfl 3 (by decide) wd_2_149 0 rfl rfl dX5_rule_39 ?_
      refine lv_if_eq (tgt := 49) hx hb dX5_rule_42 (by decide) (fun c3 => ?_) (fun c3 => ?_)
      · refine lv_aload_n hx hb dX5_rule_49 rfl (lv_at hl 0 rfl) ?_
        refine kget (v := .ref (a 2)) C hP igX5 rfl 2 (by decide) wd_2_148 0 rfl rfl dX5_rule_50 ?_
        refine lv_iload_n hx hb dX5_rule_53 rfl (lv_at hl 1 rfl) ?_
        refine kald C hP 1 rfl (in_rule c1) (k := (Int32.toNatClampNeg k)) rfl dX5_rule_54 ?_
        refine lv_istore_n (lv' := [(3, .int (ru (Int32.toNatClampNeg k))), (0, .ref (a 0)), (1, .int k), (2, .int v)]) hx hb dX5_rule_55 rfl hl (by decide) rfl (fun ls hl => ?_)
        refine lv_aload_n hx hb dX5_rule_56 rfl (lv_at hl 1 rfl) ?_
        refine kget (v := .ref (a 2)) C hP igX5 rfl 2 (by decide) wd_2_148 0 rfl rfl dX5_rule_57 ?_
        refine lv_iload_n hx hb dX5_rule_60 rfl (lv_at hl 2 rfl) ?_
        refine lv_iload_n hx hb dX5_rule_61 rfl (lv_at hl 3 rfl) ?_
        refine kast (ws' := [yc a Y, ac cI (a 2) 11 (upd ru (Int32.toNatClampNeg k) v)]) C hP hD hS 1 rfl (in_rule c1) (k := (Int32.toNatClampNeg k)) rfl rfl dX5_rule_62 (fun H locs hP hD hS => ?_)
        refine lv_iload_n hx hb dX5_rule_63 rfl (lv_at hl 0 rfl) ?_
        exact hend _ _ _ _ _ (by rw [← hr, r_X5_rule, if_neg c1, if_neg c2, if_pos c3]) (by rw [← ho_ru, q_X5_rule_ru, if_neg c1, if_neg c2, if_pos c3]; exact hP) hS dX5_rule_64
      · refine lv_sipush (v := (-10003)) hx hb dX5_rule_45 (by decide) ?_
        exact hend _ _ _ _ _ (by rw [← hr, r_X5_rule, if_neg c1, if_neg c2, if_neg c3]) (by rw [← ho_ru, q_X5_rule_ru, if_neg c1, if_neg c2, if_neg c3]; exact hP) hS dX5_rule_48
    · refine lv_sipush (v := (-10002)) hx hb dX5_rule_34 (by decide) ?_
      exact hend _ _ _ _ _ (by rw [← hr, r_X5_rule, if_neg c1, if_pos c2]) (by rw [← ho_ru, q_X5_rule_ru, if_neg c1, if_pos c2]; exact hP) hS dX5_rule_37
  · refine lv_sipush (v := (-10001)) hx hb dX5_rule_12 (by decide) ?_
    exact hend _ _ _ _ _ (by rw [← hr, r_X5_rule, if_pos c1]) (by rw [← ho_ru, q_X5_rule_ru, if_pos c1]; exact hP) hS dX5_rule_15
def r_X5_vapour (t : Int32) : Int32 := (if (r_X5_in (Int32.toInt64 t) (-600) 0) = 0 then (-2) else (r_X5_vapourAt t))
theorem ck_X5_vapour : CK yX5_vapour cX5_vapour 2 (some .int) 1 := ⟨wd_2_237, wd_1_7, by decide, by decide, by decide +kernel⟩
set_option maxHeartbeats 4000000 in
set_option maxRecDepth 100000 in
theorem c_X5_vapour (l : Launch) (D : va_G) (cI : ClassId) (a : Nat → Nat) (t : Int32) : MI l D cI yX5_vapour cX5_vapour 2 (some .int) 2 42 [.ref (a 0), .int t] [] (r_X5_vapour t) [] := by
  generalize hr : (r_X5_vapour t) = r
  refine MI.mk (own := RX5) rfl (by decide) rfl (Nat.le_of_ble_eq_true rfl) ?_
  intro p e s m args below meth c A Q C hD hend H locs ls hP hS hl
  have hx := C.1.1
  have hb := C.1.2.1
  have hl : lv_has ls 2 [(0, .ref (a 0)), (1, .int t)] := hl
  refine lv_iload_n hx hb dX5_vapour_0 rfl (lv_at hl 1 rfl) ?_
  refine lv_i2l (v := (Int32.toInt64 t)) hx hb dX5_vapour_1 rfl ?_
  refine kldc2 (v := (-600)) C wd_2_238 dX5_vapour_2 ?_
  refine lv_lconst (v := 0) hx hb dX5_vapour_5 (by decide) ?_
  refine go_i (ws' := []) C (rn_S (As := [.long (Int32.toInt64 t), .long (-600), .long 0]) (rest := []) C (c_X5_in l D cI (Int32.toInt64 t) (-600) 0 H.size) ck_X5_in wd_2_216 wd_2_215 ⟨Nat.le_of_ble_eq_true rfl, Nat.le_of_ble_eq_true rfl⟩ ⟨Nat.le_refl _, Nat.le_refl _⟩ hP hD hS [] rfl rfl hl rfl (Nat.le_of_ble_eq_true rfl) dX5_vapour_6) hP hD hS [] rfl rfl rfl (fun H locs hP hD hS => ?_)
  refine lv_if_eq (tgt := 19) hx hb dX5_vapour_9 (by decide) (fun c1 => ?_) (fun c1 => ?_)
  · refine lv_bipush (v := (-2)) hx hb dX5_vapour_19 (by decide) ?_
    exact hend _ _ _ _ _ (by rw [← hr, r_X5_vapour, if_pos c1]) hP hS dX5_vapour_21
  · refine lv_iload_n hx hb dX5_vapour_12 rfl (lv_at hl 1 rfl) ?_
    refine go_i (ws' := []) C (rn_S (As := [.int t]) (rest := []) C (c_X5_vapourAt l D cI t H.size) ck_X5_vapourAt wd_3_0 wd_2_239 ⟨Nat.le_of_ble_eq_true rfl, Nat.le_of_ble_eq_true rfl⟩ ⟨Nat.le_refl _, Nat.le_refl _⟩ hP hD hS [] rfl rfl hl rfl (Nat.le_of_ble_eq_true rfl) dX5_vapour_13) hP hD hS [] rfl rfl rfl (fun H locs hP hD hS => ?_)
    refine lv_goto (tgt := 21) hx hb dX5_vapour_16 (by decide) ?_
    exact hend _ _ _ _ _ (by rw [← hr, r_X5_vapour, if_neg c1]) hP hS dX5_vapour_21
def r_X5_steam (ru : Nat → Int32) (t : Int32) (dd : Int32) (p0 : Int32) : Int32 := (if (r_X5_in (Int32.toInt64 t) (-600) 0) = 0 then (-2) else (if (r_X5_in (Int32.toInt64 dd) 0 100) = 0 then (-2) else (if (r_X5_in (Int32.toInt64 p0) 0 20000) = 0 then (-2) else (r_X5_steamAt ru t dd p0))))
theorem ck_X5_steam : CK yX5_steam cX5_steam 4 (some .int) 3 := ⟨wd_3_8, wd_1_7, by decide, by decide, by decide +kernel⟩
set_option maxHeartbeats 4000000 in
set_option maxRecDepth 100000 in
theorem c_X5_steam (l : Launch) (D : va_G) (cI : ClassId) (a : Nat → Nat) (Y : Nat → Int32) (ru : Nat → Int32) (t : Int32) (dd : Int32) (p0 : Int32) (hRB : RB ru) : MI l D cI yX5_steam cX5_steam 4 (some .int) 3 66 [.ref (a 0), .int t, .int dd, .int p0] [yc a Y, ac cI (a 2) 11 ru] (r_X5_steam ru t dd p0) [yc a Y, ac cI (a 2) 11 ru] := by
  generalize hr : (r_X5_steam ru t dd p0) = r
  refine MI.mk (own := RX5) rfl (by decide) rfl (Nat.le_of_ble_eq_true rfl) ?_
  intro p e s m args below meth c A Q C hD hend H locs ls hP hS hl
  have hx := C.1.1
  have hb := C.1.2.1
  have hl : lv_has ls 4 [(0, .ref (a 0)), (1, .int t), (2, .int dd), (3, .int p0)] := hl
  refine lv_iload_n hx hb dX5_steam_0 rfl (lv_at hl 1 rfl) ?_
  refine lv_i2l (v := (Int32.toInt64 t)) hx hb dX5_steam_1 rfl ?_
  refine kldc2 (v := (-600)) C wd_2_238 dX5_steam_2 ?_
  refine lv_lconst (v := 0) hx hb dX5_steam_5 (by decide) ?_
  refine go_i (ws' := [yc a Y, ac cI (a 2) 11 ru]) C (rn_S (As := [.long (Int32.toInt64 t), .long (-600), .long 0]) (rest := []) C (c_X5_in l D cI (Int32.toInt64 t) (-600) 0 H.size) ck_X5_in wd_2_216 wd_2_215 ⟨Nat.le_of_ble_eq_true rfl, Nat.le_of_ble_eq_true rfl⟩ ⟨Nat.le_refl _, Nat.le_refl _⟩ hP hD hS [] rfl rfl hl rfl (Nat.le_of_ble_eq_true rfl) dX5_steam_6) hP hD hS [] rfl rfl rfl (fun H locs hP hD hS => ?_)
  refine lv_if_eq (tgt := 46) hx hb dX5_steam_9 (by decide) (fun c1 => ?_) (fun c1 => ?_)
  · refine lv_bipush (v := (-2)) hx hb dX5_steam_46 (by decide) ?_
    exact hend _ _ _ _ _ (by rw [← hr, r_X5_steam, if_pos c1]) hP hS dX5_steam_48
  · refine lv_iload_n hx hb dX5_steam_12 rfl (lv_at hl 2 rfl) ?_
    refine lv_i2l (v := (Int32.toInt64 dd)) hx hb dX5_steam_13 rfl ?_
    refine lv_lconst (v := 0) hx hb dX5_steam_14 (by decide) ?_
    refine kldc2 (v := 100) C wd_3_9 dX5_steam_15 ?_
    refine go_i (ws' := [yc a Y, ac cI (a 2) 11 ru]) C (rn_S (As := [.long (Int32.toInt64 dd), .long 0, .long 100]) (rest := []) C (c_X5_in l D cI (Int32.toInt64 dd) 0 100 H.size) ck_X5_in wd_2_216 wd_2_215 ⟨Nat.le_of_ble_eq_true rfl, Nat.le_of_ble_eq_true rfl⟩ ⟨Nat.le_refl _, Nat.le_refl _⟩ hP hD hS [] rfl rfl hl rfl (Nat.le_of_ble_eq_true rfl) dX5_steam_18) hP hD hS [] rfl rfl rfl (fun H locs hP hD hS => ?_)
    refine lv_if_eq (tgt := 46) hx hb dX5_steam_21 (by decide) (fun c2 => ?_) (fun c2 => ?_)
    · refine lv_bipush (v := (-2)) hx hb dX5_steam_46 (by decide) ?_
      exact hend _ _ _ _ _ (by rw [← hr, r_X5_steam, if_neg c1, if_pos c2]) hP hS dX5_steam_48
    · refine lv_iload_n hx hb dX5_steam_24 rfl (lv_at hl 3 rfl) ?_
      refine lv_i2l (v := (Int32.toInt64 p0)) hx hb dX5_steam_25 rfl ?_
      refine lv_lconst (v := 0) hx hb dX5_steam_26 (by decide) ?_
      refine kldc2 (v := 20000) C wd_3_10 dX5_steam_27 ?_
      refine go_i (ws' := [yc a Y, ac cI (a 2) 11 ru]) C (rn_S (As := [.long (Int32.toInt64 p0), .long 0, .long 20000]) (rest := []) C (c_X5_in l D cI (Int32.toInt64 p0) 0 20000 H.size) ck_X5_in wd_2_216 wd_2_215 ⟨Nat.le_of_ble_eq_true rfl, Nat.le_of_ble_eq_true rfl⟩ ⟨Nat.le_refl _, Nat.le_refl _⟩ hP hD hS [] rfl rfl hl rfl (Nat.le_of_ble_eq_true rfl) dX5_steam_30) hP hD hS [] rfl rfl rfl (fun H locs hP hD hS => ?_)
      refine lv_if_eq (tgt := 46) hx hb dX5_steam_33 (by decide) (fun c3 => ?_) (fun c3 => ?_)
      · refine lv_bipush (v := (-2)) hx hb dX5_steam_46 (by decide) ?_
        exact hend _ _ _ _ _ (by rw [← hr, r_X5_steam, if_neg c1, if_neg c2, if_pos c3]) hP hS dX5_steam_48
      · refine lv_aload_n hx hb dX5_steam_36 rfl (lv_at hl 0 rfl) ?_
        refine lv_iload_n hx hb dX5_steam_37 rfl (lv_at hl 1 rfl) ?_
        refine lv_iload_n hx hb dX5_steam_38 rfl (lv_at hl 2 rfl) ?_
        refine lv_iload_n hx hb dX5_steam_39 rfl (lv_at hl 3 rfl) ?_
        refine go_i (ws' := [yc a Y, ac cI (a 2) 11 ru]) C (rn_V (As := [.int t, .int dd, .int p0]) (rest := []) C (c_X5_steamAt l D cI a Y ru t dd p0 (bars_st hRB c2) H.size) ck_X5_steamAt wd_3_13 wd_0_6 wd_3_11 ⟨Nat.le_of_ble_eq_true rfl, Nat.le_of_ble_eq_true rfl⟩ ⟨Nat.le_refl _, Nat.le_refl _⟩ (ci := 5) (q0 := 0) rfl rfl hP hD hS [0, 1] rfl rfl hl rfl (Nat.le_of_ble_eq_true rfl) dX5_steam_40) hP hD hS [0, 1] rfl rfl rfl (fun H locs hP hD hS => ?_)
        refine lv_goto (tgt := 48) hx hb dX5_steam_43 (by decide) ?_
        exact hend _ _ _ _ _ (by rw [← hr, r_X5_steam, if_neg c1, if_neg c2, if_neg c3]) hP hS dX5_steam_48
def r_X5_rim (Y : Nat → Int32) (k : Int32) : Int32 := (if (r_X5_in (Int32.toInt64 k) 0 (Int32.toInt64 ((r_X5_vials Y) - 1))) = 0 then (-1) else (if (r_X5_isRim Y k) = 0 then 0 else 1))
theorem ck_X5_rim : CK yX5_rim cX5_rim 2 (some .int) 1 := ⟨wd_3_18, wd_1_7, by decide, by decide, by decide +kernel⟩
set_option maxHeartbeats 4000000 in
set_option maxRecDepth 100000 in
theorem c_X5_rim (l : Launch) (D : va_G) (cI : ClassId) (a : Nat → Nat) (Y : Nat → Int32) (k : Int32) (hc : ¬ (Y 1) = 0) : MI l D cI yX5_rim cX5_rim 2 (some .int) 1 25 [.ref (a 0), .int k] [yc a Y] (r_X5_rim Y k) [yc a Y] := by
  generalize hr : (r_X5_rim Y k) = r
  refine MI.mk (own := RX5) rfl (by decide) rfl (Nat.le_of_ble_eq_true rfl) ?_
  intro p e s m args below meth c A Q C hD hend H locs ls hP hS hl
  have hx := C.1.1
  have hb := C.1.2.1
  have hl : lv_has ls 2 [(0, .ref (a 0)), (1, .int k)] := hl
  refine lv_iload_n hx hb dX5_rim_0 rfl (lv_at hl 1 rfl) ?_
  refine lv_i2l (v := (Int32.toInt64 k)) hx hb dX5_rim_1 rfl ?_
  refine lv_lconst (v := 0) hx hb dX5_rim_2 (by decide) ?_
  refine lv_aload_n hx hb dX5_rim_3 rfl (lv_at hl 0 rfl) ?_
  refine go_i (ws' := [yc a Y]) C (rn_V (As := []) (rest := [.long 0, .long (Int32.toInt64 k)]) C (c_X5_vials l D cI a Y H.size) ck_X5_vials wd_2_221 wd_0_5 wd_2_219 ⟨Nat.le_of_ble_eq_true rfl, Nat.le_of_ble_eq_true rfl⟩ ⟨Nat.le_refl _, Nat.le_refl _⟩ (ci := 5) (q0 := 0) rfl rfl hP hD hS [0] rfl rfl hl rfl (Nat.le_of_ble_eq_true rfl) dX5_rim_4) hP hD hS [0] rfl rfl rfl (fun H locs hP hD hS => ?_)
  refine lv_iconst (v := 1) hx hb dX5_rim_7 (by decide) ?_
  refine lv_isub hx hb dX5_rim_8 ?_
  refine lv_i2l (v := (Int32.toInt64 ((r_X5_vials Y) - 1))) hx hb dX5_rim_9 rfl ?_
  refine go_i (ws' := [yc a Y]) C (rn_S (As := [.long (Int32.toInt64 k), .long 0, .long (Int32.toInt64 ((r_X5_vials Y) - 1))]) (rest := []) C (c_X5_in l D cI (Int32.toInt64 k) 0 (Int32.toInt64 ((r_X5_vials Y) - 1)) H.size) ck_X5_in wd_2_216 wd_2_215 ⟨Nat.le_of_ble_eq_true rfl, Nat.le_of_ble_eq_true rfl⟩ ⟨Nat.le_refl _, Nat.le_refl _⟩ hP hD hS [] rfl rfl hl rfl (Nat.le_of_ble_eq_true rfl) dX5_rim_10) hP hD hS [] rfl rfl rfl (fun H locs hP hD hS => ?_)
  refine lv_if_ne (tgt := 20) hx hb dX5_rim_13 (by decide) (fun c1 => ?_) (fun c1 => ?_)
  · refine lv_aload_n hx hb dX5_rim_20 rfl (lv_at hl 0 rfl) ?_
    refine lv_iload_n hx hb dX5_rim_21 rfl (lv_at hl 1 rfl) ?_
    refine go_i (ws' := [yc a Y]) C (rn_V (As := [.int k]) (rest := []) C (c_X5_isRim l D cI a Y k hc H.size) ck_X5_isRim wd_3_21 wd_0_7 wd_3_19 ⟨Nat.le_of_ble_eq_true rfl, Nat.le_of_ble_eq_true rfl⟩ ⟨Nat.le_refl _, Nat.le_refl _⟩ (ci := 5) (q0 := 0) rfl rfl hP hD hS [0] rfl rfl hl rfl (Nat.le_of_ble_eq_true rfl) dX5_rim_22) hP hD hS [0] rfl rfl rfl (fun H locs hP hD hS => ?_)
    refine lv_if_eq (tgt := 32) hx hb dX5_rim_25 (by decide) (fun c2 => ?_) (fun c2 => ?_)
    · refine lv_iconst (v := 0) hx hb dX5_rim_32 (by decide) ?_
      exact hend _ _ _ _ _ (by rw [← hr, r_X5_rim, if_neg c1, if_pos c2]) hP hS dX5_rim_33
    · refine lv_iconst (v := 1) hx hb dX5_rim_28 (by decide) ?_
      refine lv_goto (tgt := 33) hx hb dX5_rim_29 (by decide) ?_
      exact hend _ _ _ _ _ (by rw [← hr, r_X5_rim, if_neg c1, if_neg c2]) hP hS dX5_rim_33
  · refine lv_iconst (v := (-1)) hx hb dX5_rim_16 (by decide) ?_
    refine lv_goto (tgt := 33) hx hb dX5_rim_17 (by decide) ?_
    exact hend _ _ _ _ _ (by rw [← hr, r_X5_rim, if_pos c1]) hP hS dX5_rim_33
def r_X5_load (Y : Nat → Int32) : Int32 := (if (Y 3) = 0 then (r_X5_vials (y21 (Y 0) (Y 1) 1 (Y 4) (Y 5) (Y 19))) else (-3))
def q_X5_load_Y (Y : Nat → Int32) : Nat → Int32 := (if (Y 3) = 0 then (y21 (Y 0) (Y 1) 1 (Y 4) (Y 5) (Y 19)) else Y)
noncomputable def q_X5_load_ic (Y : Nat → Int32) (ru : Nat → Int32) (ic : Nat → Int32) (wm : Nat → Int32) (ga : Nat → Int32) (fe : Nat → Int32) (dr : Nat → Int32) (mn : Nat → Int32) (pr : Nat → Int32) (hg : Nat → Int32) (al : Nat → Int32) (sd : Nat → Int32) : Nat → Int32 := (if (Y 3) = 0 then (q_X5_fill_ic ru ic wm ga fe dr mn pr hg al sd 0 (Y 5)) else ic)
noncomputable def q_X5_load_wm (Y : Nat → Int32) (ru : Nat → Int32) (ic : Nat → Int32) (wm : Nat → Int32) (ga : Nat → Int32) (fe : Nat → Int32) (dr : Nat → Int32) (mn : Nat → Int32) (pr : Nat → Int32) (hg : Nat → Int32) (al : Nat → Int32) (sd : Nat → Int32) : Nat → Int32 := (if (Y 3) = 0 then (q_X5_fill_wm ru ic wm ga fe dr mn pr hg al sd 0 (Y 5)) else wm)
noncomputable def q_X5_load_ga (Y : Nat → Int32) (ru : Nat → Int32) (ic : Nat → Int32) (wm : Nat → Int32) (ga : Nat → Int32) (fe : Nat → Int32) (dr : Nat → Int32) (mn : Nat → Int32) (pr : Nat → Int32) (hg : Nat → Int32) (al : Nat → Int32) (sd : Nat → Int32) : Nat → Int32 := (if (Y 3) = 0 then (q_X5_fill_ga ru ic wm ga fe dr mn pr hg al sd 0 (Y 5)) else ga)
noncomputable def q_X5_load_fe (Y : Nat → Int32) (ru : Nat → Int32) (ic : Nat → Int32) (wm : Nat → Int32) (ga : Nat → Int32) (fe : Nat → Int32) (dr : Nat → Int32) (mn : Nat → Int32) (pr : Nat → Int32) (hg : Nat → Int32) (al : Nat → Int32) (sd : Nat → Int32) : Nat → Int32 := (if (Y 3) = 0 then (q_X5_fill_fe ru ic wm ga fe dr mn pr hg al sd 0 (Y 5)) else fe)
noncomputable def q_X5_load_dr (Y : Nat → Int32) (ru : Nat → Int32) (ic : Nat → Int32) (wm : Nat → Int32) (ga : Nat → Int32) (fe : Nat → Int32) (dr : Nat → Int32) (mn : Nat → Int32) (pr : Nat → Int32) (hg : Nat → Int32) (al : Nat → Int32) (sd : Nat → Int32) : Nat → Int32 := (if (Y 3) = 0 then (q_X5_fill_dr ru ic wm ga fe dr mn pr hg al sd 0 (Y 5)) else dr)
noncomputable def q_X5_load_mn (Y : Nat → Int32) (ru : Nat → Int32) (ic : Nat → Int32) (wm : Nat → Int32) (ga : Nat → Int32) (fe : Nat → Int32) (dr : Nat → Int32) (mn : Nat → Int32) (pr : Nat → Int32) (hg : Nat → Int32) (al : Nat → Int32) (sd : Nat → Int32) : Nat → Int32 := (if (Y 3) = 0 then (q_X5_fill_mn ru ic wm ga fe dr mn pr hg al sd 0 (Y 5)) else mn)
noncomputable def q_X5_load_pr (Y : Nat → Int32) (ru : Nat → Int32) (ic : Nat → Int32) (wm : Nat → Int32) (ga : Nat → Int32) (fe : Nat → Int32) (dr : Nat → Int32) (mn : Nat → Int32) (pr : Nat → Int32) (hg : Nat → Int32) (al : Nat → Int32) (sd : Nat → Int32) : Nat → Int32 := (if (Y 3) = 0 then (q_X5_fill_pr ru ic wm ga fe dr mn pr hg al sd 0 (Y 5)) else pr)
noncomputable def q_X5_load_hg (Y : Nat → Int32) (ru : Nat → Int32) (ic : Nat → Int32) (wm : Nat → Int32) (ga : Nat → Int32) (fe : Nat → Int32) (dr : Nat → Int32) (mn : Nat → Int32) (pr : Nat → Int32) (hg : Nat → Int32) (al : Nat → Int32) (sd : Nat → Int32) : Nat → Int32 := (if (Y 3) = 0 then (q_X5_fill_hg ru ic wm ga fe dr mn pr hg al sd 0 (Y 5)) else hg)
noncomputable def q_X5_load_al (Y : Nat → Int32) (ru : Nat → Int32) (ic : Nat → Int32) (wm : Nat → Int32) (ga : Nat → Int32) (fe : Nat → Int32) (dr : Nat → Int32) (mn : Nat → Int32) (pr : Nat → Int32) (hg : Nat → Int32) (al : Nat → Int32) (sd : Nat → Int32) : Nat → Int32 := (if (Y 3) = 0 then (q_X5_fill_al ru ic wm ga fe dr mn pr hg al sd 0 (Y 5)) else al)
noncomputable def q_X5_load_sd (Y : Nat → Int32) (ru : Nat → Int32) (ic : Nat → Int32) (wm : Nat → Int32) (ga : Nat → Int32) (fe : Nat → Int32) (dr : Nat → Int32) (mn : Nat → Int32) (pr : Nat → Int32) (hg : Nat → Int32) (al : Nat → Int32) (sd : Nat → Int32) : Nat → Int32 := (if (Y 3) = 0 then (q_X5_fill_sd ru ic wm ga fe dr mn pr hg al sd 0 (Y 5)) else sd)
def q_X5_load_we (Y : Nat → Int32) (we : Nat → Int32) : Nat → Int32 := (if (Y 3) = 0 then (upd we 0 (r_X5_vials (y21 (Y 0) (Y 1) 1 (Y 4) (Y 5) (Y 19)))) else we)
theorem ck_X5_load : CK yX5_load cX5_load 1 (some .int) 0 := ⟨wd_3_26, wd_1_7, by decide, by decide, by decide +kernel⟩
set_option maxHeartbeats 4000000 in
set_option maxRecDepth 100000 in
theorem c_X5_load (l : Launch) (D : va_G) (cI : ClassId) (a : Nat → Nat) (Y : Nat → Int32) (ru : Nat → Int32) (ic : Nat → Int32) (wm : Nat → Int32) (ga : Nat → Int32) (fe : Nat → Int32) (dr : Nat → Int32) (mn : Nat → Int32) (pr : Nat → Int32) (hg : Nat → Int32) (al : Nat → Int32) (sd : Nat → Int32) (we : Nat → Int32) : MI l D cI yX5_load cX5_load 1 (some .int) 1 23 [.ref (a 0)] [yc a Y, ac cI (a 2) 11 ru, ac cI (a 6) 48 ic, ac cI (a 7) 48 wm, ac cI (a 8) 48 ga, ac cI (a 9) 48 fe, ac cI (a 10) 48 dr, ac cI (a 11) 2 mn, ac cI (a 12) 2 pr, ac cI (a 13) 2 hg, ac cI (a 14) 2 al, ac cI (a 15) 2 sd, ac cI (a 18) 2001 we] (r_X5_load Y) [yc a (q_X5_load_Y Y), ac cI (a 2) 11 ru, ac cI (a 6) 48 (q_X5_load_ic Y ru ic wm ga fe dr mn pr hg al sd), ac cI (a 7) 48 (q_X5_load_wm Y ru ic wm ga fe dr mn pr hg al sd), ac cI (a 8) 48 (q_X5_load_ga Y ru ic wm ga fe dr mn pr hg al sd), ac cI (a 9) 48 (q_X5_load_fe Y ru ic wm ga fe dr mn pr hg al sd), ac cI (a 10) 48 (q_X5_load_dr Y ru ic wm ga fe dr mn pr hg al sd), ac cI (a 11) 2 (q_X5_load_mn Y ru ic wm ga fe dr mn pr hg al sd), ac cI (a 12) 2 (q_X5_load_pr Y ru ic wm ga fe dr mn pr hg al sd), ac cI (a 13) 2 (q_X5_load_hg Y ru ic wm ga fe dr mn pr hg al sd), ac cI (a 14) 2 (q_X5_load_al Y ru ic wm ga fe dr mn pr hg al sd), ac cI (a 15) 2 (q_X5_load_sd Y ru ic wm ga fe dr mn pr hg al sd), ac cI (a 18) 2001 (q_X5_load_we Y we)] := by
  generalize hr : (r_X5_load Y) = r
  generalize ho_Y : (q_X5_load_Y Y) = o_Y
  generalize ho_ic : (q_X5_load_ic Y ru ic wm ga fe dr mn pr hg al sd) = o_ic
  generalize ho_wm : (q_X5_load_wm Y ru ic wm ga fe dr mn pr hg al sd) = o_wm
  generalize ho_ga : (q_X5_load_ga Y ru ic wm ga fe dr mn pr hg al sd) = o_ga
  generalize ho_fe : (q_X5_load_fe Y ru ic wm ga fe dr mn pr hg al sd) = o_fe
  generalize ho_dr : (q_X5_load_dr Y ru ic wm ga fe dr mn pr hg al sd) = o_dr
  generalize ho_mn : (q_X5_load_mn Y ru ic wm ga fe dr mn pr hg al sd) = o_mn
  generalize ho_pr : (q_X5_load_pr Y ru ic wm ga fe dr mn pr hg al sd) = o_pr
  generalize ho_hg : (q_X5_load_hg Y ru ic wm ga fe dr mn pr hg al sd) = o_hg
  generalize ho_al : (q_X5_load_al Y ru ic wm ga fe dr mn pr hg al sd) = o_al
  generalize ho_sd : (q_X5_load_sd Y ru ic wm ga fe dr mn pr hg al sd) = o_sd
  generalize ho_we : (q_X5_load_we Y we) = o_we
  refine MI.mk (own := RX5) rfl (by decide) rfl (Nat.le_of_ble_eq_true rfl) ?_
  intro p e s m args below meth c A Q C hD hend H locs ls hP hS hl
  have hx := C.1.1
  have hb := C.1.2.1
  have hl : lv_has ls 1 [(0, .ref (a 0))] := hl
  refine lv_aload_n hx hb dX5_load_0 rfl (lv_at hl 0 rfl) ?_
  refine kget (v := .int (Y 3)) C hP igX5 rfl 3 (by decide) wd_2_149 0 rfl rfl dX5_load_1 ?_
  refine lv_if_eq (tgt := 10) hx hb dX5_load_4 (by decide) (fun c1 => ?_) (fun c1 => ?_)
  · refine lv_aload_n hx hb dX5_load_10 rfl (lv_at hl 0 rfl) ?_
    refine lv_iconst (v := 1) hx hb dX5_load_11 (by decide) ?_
    refine kput (ty := .boolean) (ws' := [yc a (y21 (Y 0) (Y 1) 1 (Y 4) (Y 5) (Y 19)), ac cI (a 2) 11 ru, ac cI (a 6) 48 ic, ac cI (a 7) 48 wm, ac cI (a 8) 48 ga, ac cI (a 9) 48 fe, ac cI (a 10) 48 dr, ac cI (a 11) 2 mn, ac cI (a 12) 2 pr, ac cI (a 13) 2 hg, ac cI (a 14) 2 al, ac cI (a 15) 2 sd, ac cI (a 18) 2001 we]) C hP hD hS igX5 tyX5_ok nmX5 rfl 3 (by decide) wd_2_149 rfl rfl rfl rfl 0 rfl (Nat.le_of_ble_eq_true rfl) rfl dX5_load_12 (fun H locs hP hD hS => ?_)
    refine lv_aload_n hx hb dX5_load_15 rfl (lv_at hl 0 rfl) ?_
    refine lv_iconst (v := 0) hx hb dX5_load_16 (by decide) ?_
    refine lv_aload_n hx hb dX5_load_17 rfl (lv_at hl 0 rfl) ?_
    refine kget (v := .int (Y 5)) C hP igX5 rfl 5 (by decide) wd_2_151 0 rfl rfl dX5_load_18 ?_
    refine go_v (ws' := [yc a (y21 (Y 0) (Y 1) 1 (Y 4) (Y 5) (Y 19)), ac cI (a 2) 11 ru, ac cI (a 6) 48 (q_X5_fill_ic ru ic wm ga fe dr mn pr hg al sd 0 (Y 5)), ac cI (a 7) 48 (q_X5_fill_wm ru ic wm ga fe dr mn pr hg al sd 0 (Y 5)), ac cI (a 8) 48 (q_X5_fill_ga ru ic wm ga fe dr mn pr hg al sd 0 (Y 5)), ac cI (a 9) 48 (q_X5_fill_fe ru ic wm ga fe dr mn pr hg al sd 0 (Y 5)), ac cI (a 10) 48 (q_X5_fill_dr ru ic wm ga fe dr mn pr hg al sd 0 (Y 5)), ac cI (a 11) 2 (q_X5_fill_mn ru ic wm ga fe dr mn pr hg al sd 0 (Y 5)), ac cI (a 12) 2 (q_X5_fill_pr ru ic wm ga fe dr mn pr hg al sd 0 (Y 5)), ac cI (a 13) 2 (q_X5_fill_hg ru ic wm ga fe dr mn pr hg al sd 0 (Y 5)), ac cI (a 14) 2 (q_X5_fill_al ru ic wm ga fe dr mn pr hg al sd 0 (Y 5)), ac cI (a 15) 2 (q_X5_fill_sd ru ic wm ga fe dr mn pr hg al sd 0 (Y 5)), ac cI (a 18) 2001 we]) C (rn_V (As := [.int 0, .int (Y 5)]) (rest := []) C (c_X5_fill l D cI a (y21 (Y 0) (Y 1) 1 (Y 4) (Y 5) (Y 19)) ru ic wm ga fe dr mn pr hg al sd 0 (Y 5) (Or.inl rfl) H.size) ck_X5_fill wd_3_29 wd_0_8 wd_3_27 ⟨Nat.le_of_ble_eq_true rfl, Nat.le_of_ble_eq_true rfl⟩ ⟨Nat.le_refl _, Nat.le_refl _⟩ (ci := 5) (q0 := 0) rfl rfl hP hD hS [0, 1, 2, 3, 4, 5, 6, 7, 8, 9, 10, 11] rfl rfl hl rfl (Nat.le_of_ble_eq_true rfl) dX5_load_21) hP hD hS [0, 1, 2, 3, 4, 5, 6, 7, 8, 9, 10, 11] rfl rfl rfl (fun H locs hP hD hS => ?_)
    refine lv_aload_n hx hb dX5_load_24 rfl (lv_at hl 0 rfl) ?_
    refine kget (v := .ref (a 18)) C hP igX5 rfl 18 (by decide) wd_2_164 0 rfl rfl dX5_load_25 ?_
    refine lv_iconst (v := 0) hx hb dX5_load_28 (by decide) ?_
    refine lv_aload_n hx hb dX5_load_29 rfl (lv_at hl 0 rfl) ?_
    refine go_i (ws' := [yc a (y21 (Y 0) (Y 1) 1 (Y 4) (Y 5) (Y 19)), ac cI (a 2) 11 ru, ac cI (a 6) 48 (q_X5_fill_ic ru ic wm ga fe dr mn pr hg al sd 0 (Y 5)), ac cI (a 7) 48 (q_X5_fill_wm ru ic wm ga fe dr mn pr hg al sd 0 (Y 5)), ac cI (a 8) 48 (q_X5_fill_ga ru ic wm ga fe dr mn pr hg al sd 0 (Y 5)), ac cI (a 9) 48 (q_X5_fill_fe ru ic wm ga fe dr mn pr hg al sd 0 (Y 5)), ac cI (a 10) 48 (q_X5_fill_dr ru ic wm ga fe dr mn pr hg al sd 0 (Y 5)), ac cI (a 11) 2 (q_X5_fill_mn ru ic wm ga fe dr mn pr hg al sd 0 (Y 5)), ac cI (a 12) 2 (q_X5_fill_pr ru ic wm ga fe dr mn pr hg al sd 0 (Y 5)), ac cI (a 13) 2 (q_X5_fill_hg ru ic wm ga fe dr mn pr hg al sd 0 (Y 5)), ac cI (a 14) 2 (q_X5_fill_al ru ic wm ga fe dr mn pr hg al sd 0 (Y 5)), ac cI (a 15) 2 (q_X5_fill_sd ru ic wm ga fe dr mn pr hg al sd 0 (Y 5)), ac cI (a 18) 2001 we]) C (rn_V (As := []) (rest := [.int 0, .ref (a 18)]) C (c_X5_vials l D cI a (y21 (Y 0) (Y 1) 1 (Y 4) (Y 5) (Y 19)) H.size) ck_X5_vials wd_2_221 wd_0_5 wd_2_219 ⟨Nat.le_of_ble_eq_true rfl, Nat.le_of_ble_eq_true rfl⟩ ⟨Nat.le_refl _, Nat.le_refl _⟩ (ci := 5) (q0 := 0) rfl rfl hP hD hS [0] rfl rfl hl rfl (Nat.le_of_ble_eq_true rfl) dX5_load_30) hP hD hS [0] rfl rfl rfl (fun H locs hP hD hS => ?_)
    refine kast (ws' := [yc a (y21 (Y 0) (Y 1) 1 (Y 4) (Y 5) (Y 19)), ac cI (a 2) 11 ru, ac cI (a 6) 48 (q_X5_fill_ic ru ic wm ga fe dr mn pr hg al sd 0 (Y 5)), ac cI (a 7) 48 (q_X5_fill_wm ru ic wm ga fe dr mn pr hg al sd 0 (Y 5)), ac cI (a 8) 48 (q_X5_fill_ga ru ic wm ga fe dr mn pr hg al sd 0 (Y 5)), ac cI (a 9) 48 (q_X5_fill_fe ru ic wm ga fe dr mn pr hg al sd 0 (Y 5)), ac cI (a 10) 48 (q_X5_fill_dr ru ic wm ga fe dr mn pr hg al sd 0 (Y 5)), ac cI (a 11) 2 (q_X5_fill_mn ru ic wm ga fe dr mn pr hg al sd 0 (Y 5)), ac cI (a 12) 2 (q_X5_fill_pr ru ic wm ga fe dr mn pr hg al sd 0 (Y 5)), ac cI (a 13) 2 (q_X5_fill_hg ru ic wm ga fe dr mn pr hg al sd 0 (Y 5)), ac cI (a 14) 2 (q_X5_fill_al ru ic wm ga fe dr mn pr hg al sd 0 (Y 5)), ac cI (a 15) 2 (q_X5_fill_sd ru ic wm ga fe dr mn pr hg al sd 0 (Y 5)), ac cI (a 18) 2001 (upd we 0 (r_X5_vials (y21 (Y 0) (Y 1) 1 (Y 4) (Y 5) (Y 19))))]) C hP hD hS 12 rfl (vp_in_iff.mpr (by decide)) (k := 0) rfl rfl dX5_load_33 (fun H locs hP hD hS => ?_)
    refine lv_aload_n hx hb dX5_load_34 rfl (lv_at hl 0 rfl) ?_
    refine go_i (ws' := [yc a (y21 (Y 0) (Y 1) 1 (Y 4) (Y 5) (Y 19)), ac cI (a 2) 11 ru, ac cI (a 6) 48 (q_X5_fill_ic ru ic wm ga fe dr mn pr hg al sd 0 (Y 5)), ac cI (a 7) 48 (q_X5_fill_wm ru ic wm ga fe dr mn pr hg al sd 0 (Y 5)), ac cI (a 8) 48 (q_X5_fill_ga ru ic wm ga fe dr mn pr hg al sd 0 (Y 5)), ac cI (a 9) 48 (q_X5_fill_fe ru ic wm ga fe dr mn pr hg al sd 0 (Y 5)), ac cI (a 10) 48 (q_X5_fill_dr ru ic wm ga fe dr mn pr hg al sd 0 (Y 5)), ac cI (a 11) 2 (q_X5_fill_mn ru ic wm ga fe dr mn pr hg al sd 0 (Y 5)), ac cI (a 12) 2 (q_X5_fill_pr ru ic wm ga fe dr mn pr hg al sd 0 (Y 5)), ac cI (a 13) 2 (q_X5_fill_hg ru ic wm ga fe dr mn pr hg al sd 0 (Y 5)), ac cI (a 14) 2 (q_X5_fill_al ru ic wm ga fe dr mn pr hg al sd 0 (Y 5)), ac cI (a 15) 2 (q_X5_fill_sd ru ic wm ga fe dr mn pr hg al sd 0 (Y 5)), ac cI (a 18) 2001 (upd we 0 (r_X5_vials (y21 (Y 0) (Y 1) 1 (Y 4) (Y 5) (Y 19))))]) C (rn_V (As := []) (rest := []) C (c_X5_vials l D cI a (y21 (Y 0) (Y 1) 1 (Y 4) (Y 5) (Y 19)) H.size) ck_X5_vials wd_2_221 wd_0_5 wd_2_219 ⟨Nat.le_of_ble_eq_true rfl, Nat.le_of_ble_eq_true rfl⟩ ⟨Nat.le_refl _, Nat.le_refl _⟩ (ci := 5) (q0 := 0) rfl rfl hP hD hS [0] rfl rfl hl rfl (Nat.le_of_ble_eq_true rfl) dX5_load_35) hP hD hS [0] rfl rfl rfl (fun H locs hP hD hS => ?_)
    exact hend _ _ _ _ _ (by rw [← hr, r_X5_load, if_pos c1]) (by rw [← ho_Y, q_X5_load_Y, if_pos c1, ← ho_ic, q_X5_load_ic, if_pos c1, ← ho_wm, q_X5_load_wm, if_pos c1, ← ho_ga, q_X5_load_ga, if_pos c1, ← ho_fe, q_X5_load_fe, if_pos c1, ← ho_dr, q_X5_load_dr, if_pos c1, ← ho_mn, q_X5_load_mn, if_pos c1, ← ho_pr, q_X5_load_pr, if_pos c1, ← ho_hg, q_X5_load_hg, if_pos c1, ← ho_al, q_X5_load_al, if_pos c1, ← ho_sd, q_X5_load_sd, if_pos c1, ← ho_we, q_X5_load_we, if_pos c1]; exact hP) hS dX5_load_38
  · refine lv_bipush (v := (-3)) hx hb dX5_load_7 (by decide) ?_
    exact hend _ _ _ _ _ (by rw [← hr, r_X5_load, if_neg c1]) (by rw [← ho_Y, q_X5_load_Y, if_neg c1, ← ho_ic, q_X5_load_ic, if_neg c1, ← ho_wm, q_X5_load_wm, if_neg c1, ← ho_ga, q_X5_load_ga, if_neg c1, ← ho_fe, q_X5_load_fe, if_neg c1, ← ho_dr, q_X5_load_dr, if_neg c1, ← ho_mn, q_X5_load_mn, if_neg c1, ← ho_pr, q_X5_load_pr, if_neg c1, ← ho_hg, q_X5_load_hg, if_neg c1, ← ho_al, q_X5_load_al, if_neg c1, ← ho_sd, q_X5_load_sd, if_neg c1, ← ho_we, q_X5_load_we, if_neg c1]; exact hP) hS dX5_load_9
def r_X5_warm (Y : Nat → Int32) (t : Int32) : Int32 := (if (r_X5_in (Int32.toInt64 t) (-600) 400) = 0 then (-10002) else (Y 4))
def q_X5_warm_Y (Y : Nat → Int32) (t : Int32) : Nat → Int32 := (if (r_X5_in (Int32.toInt64 t) (-600) 400) = 0 then Y else (y21 (Y 0) (Y 1) (Y 3) t (Y 5) (Y 19)))
theorem ck_X5_warm : CK yX5_warm cX5_warm 3 (some .int) 1 := ⟨wd_3_34, wd_1_7, by decide, by decide, by decide +kernel⟩
set_option maxHeartbeats 4000000 in
set_option maxRecDepth 100000 in
theorem c_X5_warm (l : Launch) (D : va_G) (cI : ClassId) (a : Nat → Nat) (Y : Nat → Int32) (t : Int32) : MI l D cI yX5_warm cX5_warm 3 (some .int) 1 25 [.ref (a 0), .int t] [yc a Y] (r_X5_warm Y t) [yc a (q_X5_warm_Y Y t)] := by
  generalize hr : (r_X5_warm Y t) = r
  generalize ho_Y : (q_X5_warm_Y Y t) = o_Y
  refine MI.mk (own := RX5) rfl (by decide) rfl (Nat.le_of_ble_eq_true rfl) ?_
  intro p e s m args below meth c A Q C hD hend H locs ls hP hS hl
  have hx := C.1.1
  have hb := C.1.2.1
  have hl : lv_has ls 3 [(0, .ref (a 0)), (1, .int t)] := hl
  refine lv_iload_n hx hb dX5_warm_0 rfl (lv_at hl 1 rfl) ?_
  refine lv_i2l (v := (Int32.toInt64 t)) hx hb dX5_warm_1 rfl ?_
  refine kldc2 (v := (-600)) C wd_2_238 dX5_warm_2 ?_
  refine kldc2 (v := 400) C wd_3_35 dX5_warm_5 ?_
  refine go_i (ws' := [yc a Y]) C (rn_S (As := [.long (Int32.toInt64 t), .long (-600), .long 400]) (rest := []) C (c_X5_in l D cI (Int32.toInt64 t) (-600) 400 H.size) ck_X5_in wd_2_216 wd_2_215 ⟨Nat.le_of_ble_eq_true rfl, Nat.le_of_ble_eq_true rfl⟩ ⟨Nat.le_refl _, Nat.le_refl _⟩ hP hD hS [] rfl rfl hl rfl (Nat.le_of_ble_eq_true rfl) dX5_warm_8) hP hD hS [] rfl rfl rfl (fun H locs hP hD hS => ?_)
  refine lv_if_ne (tgt := 18) hx hb dX5_warm_11 (by decide) (fun c1 => ?_) (fun c1 => ?_)
  · refine lv_aload_n hx hb dX5_warm_18 rfl (lv_at hl 0 rfl) ?_
    refine kget (v := .int (Y 4)) C hP igX5 rfl 4 (by decide) wd_2_150 0 rfl rfl dX5_warm_19 ?_
    refine lv_istore_n (lv' := [(2, .int (Y 4)), (0, .ref (a 0)), (1, .int t)]) hx hb dX5_warm_22 rfl hl (by decide) rfl (fun ls hl => ?_)
    refine lv_aload_n hx hb dX5_warm_23 rfl (lv_at hl 1 rfl) ?_
    refine lv_iload_n hx hb dX5_warm_24 rfl (lv_at hl 2 rfl) ?_
    refine kput (ty := .int) (ws' := [yc a (y21 (Y 0) (Y 1) (Y 3) t (Y 5) (Y 19))]) C hP hD hS igX5 tyX5_ok nmX5 rfl 4 (by decide) wd_2_150 rfl rfl rfl rfl 0 rfl (Nat.le_of_ble_eq_true rfl) rfl dX5_warm_25 (fun H locs hP hD hS => ?_)
    refine lv_iload_n hx hb dX5_warm_28 rfl (lv_at hl 0 rfl) ?_
    exact hend _ _ _ _ _ (by rw [← hr, r_X5_warm, if_neg c1]) (by rw [← ho_Y, q_X5_warm_Y, if_neg c1]; exact hP) hS dX5_warm_29
  · refine lv_sipush (v := (-10002)) hx hb dX5_warm_14 (by decide) ?_
    exact hend _ _ _ _ _ (by rw [← hr, r_X5_warm, if_pos c1]) (by rw [← ho_Y, q_X5_warm_Y, if_pos c1]; exact hP) hS dX5_warm_17
def r_X5_set (Y : Nat → Int32) (p0 : Int32) : Int32 := (if (r_X5_in (Int32.toInt64 p0) 0 5000) = 0 then (-2) else (Y 5))
def q_X5_set_Y (Y : Nat → Int32) (p0 : Int32) : Nat → Int32 := (if (r_X5_in (Int32.toInt64 p0) 0 5000) = 0 then Y else (y21 (Y 0) (Y 1) (Y 3) (Y 4) p0 (Y 19)))
theorem ck_X5_set : CK yX5_set cX5_set 3 (some .int) 1 := ⟨wd_3_39, wd_1_7, by decide, by decide, by decide +kernel⟩
set_option maxHeartbeats 4000000 in
set_option maxRecDepth 100000 in
theorem c_X5_set (l : Launch) (D : va_G) (cI : ClassId) (a : Nat → Nat) (Y : Nat → Int32) (p0 : Int32) : MI l D cI yX5_set cX5_set 3 (some .int) 1 25 [.ref (a 0), .int p0] [yc a Y] (r_X5_set Y p0) [yc a (q_X5_set_Y Y p0)] := by
  generalize hr : (r_X5_set Y p0) = r
  generalize ho_Y : (q_X5_set_Y Y p0) = o_Y
  refine MI.mk (own := RX5) rfl (by decide) rfl (Nat.le_of_ble_eq_true rfl) ?_
  intro p e s m args below meth c A Q C hD hend H locs ls hP hS hl
  have hx := C.1.1
  have hb := C.1.2.1
  have hl : lv_has ls 3 [(0, .ref (a 0)), (1, .int p0)] := hl
  refine lv_iload_n hx hb dX5_set_0 rfl (lv_at hl 1 rfl) ?_
  refine lv_i2l (v := (Int32.toInt64 p0)) hx hb dX5_set_1 rfl ?_
  refine lv_lconst (v := 0) hx hb dX5_set_2 (by decide) ?_
  refine kldc2 (v := 5000) C wd_3_40 dX5_set_3 ?_
  refine go_i (ws' := [yc a Y]) C (rn_S (As := [.long (Int32.toInt64 p0), .long 0, .long 5000]) (rest := []) C (c_X5_in l D cI (Int32.toInt64 p0) 0 5000 H.size) ck_X5_in wd_2_216 wd_2_215 ⟨Nat.le_of_ble_eq_true rfl, Nat.le_of_ble_eq_true rfl⟩ ⟨Nat.le_refl _, Nat.le_refl _⟩ hP hD hS [] rfl rfl hl rfl (Nat.le_of_ble_eq_true rfl) dX5_set_6) hP hD hS [] rfl rfl rfl (fun H locs hP hD hS => ?_)
  refine lv_if_ne (tgt := 15) hx hb dX5_set_9 (by decide) (fun c1 => ?_) (fun c1 => ?_)
  · refine lv_aload_n hx hb dX5_set_15 rfl (lv_at hl 0 rfl) ?_
    refine kget (v := .int (Y 5)) C hP igX5 rfl 5 (by decide) wd_2_151 0 rfl rfl dX5_set_16 ?_
    refine lv_istore_n (lv' := [(2, .int (Y 5)), (0, .ref (a 0)), (1, .int p0)]) hx hb dX5_set_19 rfl hl (by decide) rfl (fun ls hl => ?_)
    refine lv_aload_n hx hb dX5_set_20 rfl (lv_at hl 1 rfl) ?_
    refine lv_iload_n hx hb dX5_set_21 rfl (lv_at hl 2 rfl) ?_
    refine kput (ty := .int) (ws' := [yc a (y21 (Y 0) (Y 1) (Y 3) (Y 4) p0 (Y 19))]) C hP hD hS igX5 tyX5_ok nmX5 rfl 5 (by decide) wd_2_151 rfl rfl rfl rfl 0 rfl (Nat.le_of_ble_eq_true rfl) rfl dX5_set_22 (fun H locs hP hD hS => ?_)
    refine lv_iload_n hx hb dX5_set_25 rfl (lv_at hl 0 rfl) ?_
    exact hend _ _ _ _ _ (by rw [← hr, r_X5_set, if_neg c1]) (by rw [← ho_Y, q_X5_set_Y, if_neg c1]; exact hP) hS dX5_set_26
  · refine lv_bipush (v := (-2)) hx hb dX5_set_12 (by decide) ?_
    exact hend _ _ _ _ _ (by rw [← hr, r_X5_set, if_pos c1]) (by rw [← ho_Y, q_X5_set_Y, if_pos c1]; exact hP) hS dX5_set_14
noncomputable def r_X5_unload (Y : Nat → Int32) (ic : Nat → Int32) : Int32 := (if (Y 3) = 0 then (-3) else (r_X5_wetOf (y21 (Y 0) (Y 1) 0 (Y 4) (Y 5) (Y 19)) ic 0))
def q_X5_unload_Y (Y : Nat → Int32) : Nat → Int32 := (if (Y 3) = 0 then Y else (y21 (Y 0) (Y 1) 0 (Y 4) (Y 5) (Y 19)))
theorem ck_X5_unload : CK yX5_unload cX5_unload 1 (some .int) 0 := ⟨wd_3_65, wd_1_7, by decide, by decide, by decide +kernel⟩
set_option maxHeartbeats 4000000 in
set_option maxRecDepth 100000 in
theorem c_X5_unload (l : Launch) (D : va_G) (cI : ClassId) (a : Nat → Nat) (Y : Nat → Int32) (ic : Nat → Int32) (hv : Int32.toInt (r_X5_vials Y) ≤ 24) : MI l D cI yX5_unload cX5_unload 1 (some .int) 2 43 [.ref (a 0)] [yc a Y, ac cI (a 6) 48 ic] (r_X5_unload Y ic) [yc a (q_X5_unload_Y Y), ac cI (a 6) 48 ic] := by
  generalize hr : (r_X5_unload Y ic) = r
  generalize ho_Y : (q_X5_unload_Y Y) = o_Y
  refine MI.mk (own := RX5) rfl (by decide) rfl (Nat.le_of_ble_eq_true rfl) ?_
  intro p e s m args below meth c A Q C hD hend H locs ls hP hS hl
  have hx := C.1.1
  have hb := C.1.2.1
  have hl : lv_has ls 1 [(0, .ref (a 0))] := hl
  refine lv_aload_n hx hb dX5_unload_0 rfl (lv_at hl 0 rfl) ?_
  refine kget (v := .int (Y 3)) C hP igX5 rfl 3 (by decide) wd_2_149 0 rfl rfl dX5_unload_1 ?_
  refine lv_if_ne (tgt := 10) hx hb dX5_unload_4 (by decide) (fun c1 => ?_) (fun c1 => ?_)
  · refine lv_aload_n hx hb dX5_unload_10 rfl (lv_at hl 0 rfl) ?_
    refine lv_iconst (v := 0) hx hb dX5_unload_11 (by decide) ?_
    refine kput (ty := .boolean) (ws' := [yc a (y21 (Y 0) (Y 1) 0 (Y 4) (Y 5) (Y 19)), ac cI (a 6) 48 ic]) C hP hD hS igX5 tyX5_ok nmX5 rfl 3 (by decide) wd_2_149 rfl rfl rfl rfl 0 rfl (Nat.le_of_ble_eq_true rfl) rfl dX5_unload_12 (fun H locs hP hD hS => ?_)
    refine lv_aload_n hx hb dX5_unload_15 rfl (lv_at hl 0 rfl) ?_
    refine lv_iconst (v := 0) hx hb dX5_unload_16 (by decide) ?_
    refine go_i (ws' := [yc a (y21 (Y 0) (Y 1) 0 (Y 4) (Y 5) (Y 19)), ac cI (a 6) 48 ic]) C (rn_V (As := [.int 0]) (rest := []) C (c_X5_wetOf l D cI a (y21 (Y 0) (Y 1) 0 (Y 4) (Y 5) (Y 19)) ic 0 (Or.inl rfl) hv H.size) ck_X5_wetOf wd_3_60 wd_0_12 wd_3_58 ⟨Nat.le_of_ble_eq_true rfl, Nat.le_of_ble_eq_true rfl⟩ ⟨Nat.le_refl _, Nat.le_refl _⟩ (ci := 5) (q0 := 0) rfl rfl hP hD hS [0, 1] rfl rfl hl rfl (Nat.le_of_ble_eq_true rfl) dX5_unload_17) hP hD hS [0, 1] rfl rfl rfl (fun H locs hP hD hS => ?_)
    exact hend _ _ _ _ _ (by rw [← hr, r_X5_unload, if_neg c1]) (by rw [← ho_Y, q_X5_unload_Y, if_neg c1]; exact hP) hS dX5_unload_20
  · refine lv_bipush (v := (-3)) hx hb dX5_unload_7 (by decide) ?_
    exact hend _ _ _ _ _ (by rw [← hr, r_X5_unload, if_pos c1]) (by rw [← ho_Y, q_X5_unload_Y, if_pos c1]; exact hP) hS dX5_unload_9
def r_X5_vial (Y : Nat → Int32) (ic : Nat → Int32) (wm : Nat → Int32) (ga : Nat → Int32) (fe : Nat → Int32) (dr : Nat → Int32) (k : Int32) (wh : Int32) : Int32 := (if (Y 3) = 0 then (-10003) else (if (r_X5_in (Int32.toInt64 k) 0 (Int32.toInt64 ((r_X5_vials Y) - 1))) = 0 then (-10001) else (if wh = 0 then (ic (Int32.toNatClampNeg k)) else (if wh = 1 then (wm (Int32.toNatClampNeg k)) else (if wh = 2 then (ga (Int32.toNatClampNeg k)) else (if wh = 3 then (fe (Int32.toNatClampNeg k)) else (if wh = 4 then (dr (Int32.toNatClampNeg k)) else (-10002))))))))
theorem ck_X5_vial : CK yX5_vial cX5_vial 3 (some .int) 2 := ⟨wd_3_69, wd_1_7, by decide, by decide, by decide +kernel⟩
set_option maxHeartbeats 4000000 in
set_option maxRecDepth 100000 in
theorem c_X5_vial (l : Launch) (D : va_G) (cI : ClassId) (a : Nat → Nat) (Y : Nat → Int32) (ic : Nat → Int32) (wm : Nat → Int32) (ga : Nat → Int32) (fe : Nat → Int32) (dr : Nat → Int32) (k : Int32) (wh : Int32) (h1 : 1 ≤ Int32.toInt (r_X5_vials Y)) (hv : Int32.toInt (r_X5_vials Y) ≤ 24) : MI l D cI yX5_vial cX5_vial 3 (some .int) 1 25 [.ref (a 0), .int k, .int wh] [yc a Y, ac cI (a 6) 48 ic, ac cI (a 7) 48 wm, ac cI (a 8) 48 ga, ac cI (a 9) 48 fe, ac cI (a 10) 48 dr] (r_X5_vial Y ic wm ga fe dr k wh) [yc a Y, ac cI (a 6) 48 ic, ac cI (a 7) 48 wm, ac cI (a 8) 48 ga, ac cI (a 9) 48 fe, ac cI (a 10) 48 dr] := by
  generalize hr : (r_X5_vial Y ic wm ga fe dr k wh) = r
  refine MI.mk (own := RX5) rfl (by decide) rfl (Nat.le_of_ble_eq_true rfl) ?_
  intro p e s m args below meth c A Q C hD hend H locs ls hP hS hl
  have hx := C.1.1
  have hb := C.1.2.1
  have hl : lv_has ls 3 [(0, .ref (a 0)), (1, .int k), (2, .int wh)] := hl
  refine lv_aload_n hx hb dX5_vial_0 rfl (lv_at hl 0 rfl) ?_
  refine kget (v := .int (Y 3)) C hP igX5 rfl 3 (by decide) wd_2_149 0 rfl rfl dX5_vial_1 ?_
  refine lv_if_ne (tgt := 11) hx hb dX5_vial_4 (by decide) (fun c1 => ?_) (fun c1 => ?_)
  · refine lv_iload_n hx hb dX5_vial_11 rfl (lv_at hl 1 rfl) ?_
    refine lv_i2l (v := (Int32.toInt64 k)) hx hb dX5_vial_12 rfl ?_
    refine lv_lconst (v := 0) hx hb dX5_vial_13 (by decide) ?_
    refine lv_aload_n hx hb dX5_vial_14 rfl (lv_at hl 0 rfl) ?_
    refine go_i (ws' := [yc a Y, ac cI (a 6) 48 ic, ac cI (a 7) 48 wm, ac cI (a 8) 48 ga, ac cI (a 9) 48 fe, ac cI (a 10) 48 dr]) C (rn_V (As := []) (rest := [.long 0, .long (Int32.toInt64 k)]) C (c_X5_vials l D cI a Y H.size) ck_X5_vials wd_2_221 wd_0_5 wd_2_219 ⟨Nat.le_of_ble_eq_true rfl, Nat.le_of_ble_eq_true rfl⟩ ⟨Nat.le_refl _, Nat.le_refl _⟩ (ci := 5) (q0 := 0) rfl rfl hP hD hS [0] rfl rfl hl rfl (Nat.le_of_ble_eq_true rfl) dX5_vial_15) hP hD hS [0] rfl rfl rfl (fun H locs hP hD hS => ?_)
    refine lv_iconst (v := 1) hx hb dX5_vial_18 (by decide) ?_
    refine lv_isub hx hb dX5_vial_19 ?_
    refine lv_i2l (v := (Int32.toInt64 ((r_X5_vials Y) - 1))) hx hb dX5_vial_20 rfl ?_
    refine go_i (ws' := [yc a Y, ac cI (a 6) 48 ic, ac cI (a 7) 48 wm, ac cI (a 8) 48 ga, ac cI (a 9) 48 fe, ac cI (a 10) 48 dr]) C (rn_S (As := [.long (Int32.toInt64 k), .long 0, .long (Int32.toInt64 ((r_X5_vials Y) - 1))]) (rest := []) C (c_X5_in l D cI (Int32.toInt64 k) 0 (Int32.toInt64 ((r_X5_vials Y) - 1)) H.size) ck_X5_in wd_2_216 wd_2_215 ⟨Nat.le_of_ble_eq_true rfl, Nat.le_of_ble_eq_true rfl⟩ ⟨Nat.le_refl _, Nat.le_refl _⟩ hP hD hS [] rfl rfl hl rfl (Nat.le_of_ble_eq_true rfl) dX5_vial_21) hP hD hS [] rfl rfl rfl (fun H locs hP hD hS => ?_)
    refine lv_if_ne (tgt := 31) hx hb dX5_vial_24 (by decide) (fun c2 => ?_) (fun c2 => ?_)
    · refine lv_iload_n hx hb dX5_vial_31 rfl (lv_at hl 2 rfl) ?_
      refine lv_if_ne (tgt := 44) hx hb dX5_vial_32 (by decide) (fun c3 => ?_) (fun c3 => ?_)
      · refine lv_iload_n hx hb dX5_vial_44 rfl (lv_at hl 2 rfl) ?_
        refine lv_iconst (v := 1) hx hb dX5_vial_45 (by decide) ?_
        refine lv_icmp_ne (tgt := 58) hx hb dX5_vial_46 (by decide) (fun c4 => ?_) (fun c4 => ?_)
        · refine lv_iload_n hx hb dX5_vial_58 rfl (lv_at hl 2 rfl) ?_
          refine lv_iconst (v := 2) hx hb dX5_vial_59 (by decide) ?_
          refine lv_icmp_ne (tgt := 72) hx hb dX5_vial_60 (by decide) (fun c5 => ?_) (fun c5 => ?_)
          · refine lv_iload_n hx hb dX5_vial_72 rfl (lv_at hl 2 rfl) ?_
            refine lv_iconst (v := 3) hx hb dX5_vial_73 (by decide) ?_
            refine lv_icmp_ne (tgt := 86) hx hb dX5_vial_74 (by decide) (fun c6 => ?_) (fun c6 => ?_)
            · refine lv_iload_n hx hb dX5_vial_86 rfl (lv_at hl 2 rfl) ?_
              refine lv_iconst (v := 4) hx hb dX5_vial_87 (by decide) ?_
              refine lv_icmp_ne (tgt := 100) hx hb dX5_vial_88 (by decide) (fun c7 => ?_) (fun c7 => ?_)
              · refine lv_sipush (v := (-10002)) hx hb dX5_vial_100 (by decide) ?_
                exact hend _ _ _ _ _ (by rw [← hr, r_X5_vial, if_neg c1, if_neg c2, if_neg c3, if_neg c4, if_neg c5, if_neg c6, if_neg c7]) hP hS dX5_vial_103
              · refine lv_aload_n hx hb dX5_vial_91 rfl (lv_at hl 0 rfl) ?_
                refine kget (v := .ref (a 10)) C hP igX5 rfl 10 (by decide) wd_2_156 0 rfl rfl dX5_vial_92 ?_
                refine lv_iload_n hx hb dX5_vial_95 rfl (lv_at hl 1 rfl) ?_
                refine kald C hP 5 rfl (in_vial h1 hv c2) (k := (Int32.toNatClampNeg k)) rfl dX5_vial_96 ?_
                refine lv_goto (tgt := 103) hx hb dX5_vial_97 (by decide) ?_
                exact hend _ _ _ _ _ (by rw [← hr, r_X5_vial, if_neg c1, if_neg c2, if_neg c3, if_neg c4, if_neg c5, if_neg c6, if_pos c7]) hP hS dX5_vial_103
            · refine lv_aload_n hx hb dX5_vial_77 rfl (lv_at hl 0 rfl) ?_
              refine kget (v := .ref (a 9)) C hP igX5 rfl 9 (by decide) wd_2_155 0 rfl rfl dX5_vial_78 ?_
              refine lv_iload_n hx hb dX5_vial_81 rfl (lv_at hl 1 rfl) ?_
              refine kald C hP 4 rfl (in_vial h1 hv c2) (k := (Int32.toNatClampNeg k)) rfl dX5_vial_82 ?_
              refine lv_goto (tgt := 103) hx hb dX5_vial_83 (by decide) ?_
              exact hend _ _ _ _ _ (by rw [← hr, r_X5_vial, if_neg c1, if_neg c2, if_neg c3, if_neg c4, if_neg c5, if_pos c6]) hP hS dX5_vial_103
          · refine lv_aload_n hx hb dX5_vial_63 rfl (lv_at hl 0 rfl) ?_
            refine kget (v := .ref (a 8)) C hP igX5 rfl 8 (by decide) wd_2_154 0 rfl rfl dX5_vial_64 ?_
            refine lv_iload_n hx hb dX5_vial_67 rfl (lv_at hl 1 rfl) ?_
            refine kald C hP 3 rfl (in_vial h1 hv c2) (k := (Int32.toNatClampNeg k)) rfl dX5_vial_68 ?_
            refine lv_goto (tgt := 103) hx hb dX5_vial_69 (by decide) ?_
            exact hend _ _ _ _ _ (by rw [← hr, r_X5_vial, if_neg c1, if_neg c2, if_neg c3, if_neg c4, if_pos c5]) hP hS dX5_vial_103
        · refine lv_aload_n hx hb dX5_vial_49 rfl (lv_at hl 0 rfl) ?_
          refine kget (v := .ref (a 7)) C hP igX5 rfl 7 (by decide) wd_2_153 0 rfl rfl dX5_vial_50 ?_
          refine lv_iload_n hx hb dX5_vial_53 rfl (lv_at hl 1 rfl) ?_
          refine kald C hP 2 rfl (in_vial h1 hv c2) (k := (Int32.toNatClampNeg k)) rfl dX5_vial_54 ?_
          refine lv_goto (tgt := 103) hx hb dX5_vial_55 (by decide) ?_
          exact hend _ _ _ _ _ (by rw [← hr, r_X5_vial, if_neg c1, if_neg c2, if_neg c3, if_pos c4]) hP hS dX5_vial_103
      · refine lv_aload_n hx hb dX5_vial_35 rfl (lv_at hl 0 rfl) ?_
        refine kget (v := .ref (a 6)) C hP igX5 rfl 6 (by decide) wd_2_152 0 rfl rfl dX5_vial_36 ?_
        refine lv_iload_n hx hb dX5_vial_39 rfl (lv_at hl 1 rfl) ?_
        refine kald C hP 1 rfl (in_vial h1 hv c2) (k := (Int32.toNatClampNeg k)) rfl dX5_vial_40 ?_
        refine lv_goto (tgt := 103) hx hb dX5_vial_41 (by decide) ?_
        exact hend _ _ _ _ _ (by rw [← hr, r_X5_vial, if_neg c1, if_neg c2, if_pos c3]) hP hS dX5_vial_103
    · refine lv_sipush (v := (-10001)) hx hb dX5_vial_27 (by decide) ?_
      exact hend _ _ _ _ _ (by rw [← hr, r_X5_vial, if_neg c1, if_pos c2]) hP hS dX5_vial_30
  · refine lv_sipush (v := (-10003)) hx hb dX5_vial_7 (by decide) ?_
    exact hend _ _ _ _ _ (by rw [← hr, r_X5_vial, if_pos c1]) hP hS dX5_vial_10
def mg_X5_about_85 (fe : Nat → Int32) (i : Int32) : Int32 := (if (fe (Int32.toNatClampNeg i)) < 0 then 0 else 1)
noncomputable def lr_X5_about_58 (Y : Nat → Int32) (ic : Nat → Int32) (fe : Nat → Int32) (mn : Nat → Int32) (pr : Nat → Int32) (hg : Nat → Int32) (al : Nat → Int32) (sd : Nat → Int32) (wh : Int32) : Nat → (Int32) → (Int32) → (Int32) → (Int32)
  | 0, _, _, _ => 0
  | n + 1, su, fl, i => (if (r_X5_vials Y) ≤ i then (if wh = 0 then (mn 0) else (if wh = 1 then (pr 0) else (if wh = 2 then su else (if wh = 3 then (sd 0) else (if wh = 4 then (al 0) else (if wh = 5 then (hg 0) else (if wh = 6 then fl else ((r_X5_vials Y) - (r_X5_wetOf Y ic 0))))))))) else (lr_X5_about_58 Y ic fe mn pr hg al sd wh n (su + (ic (Int32.toNatClampNeg i))) (fl + (mg_X5_about_85 fe i)) (i + 1)))
noncomputable def r_X5_about (Y : Nat → Int32) (ic : Nat → Int32) (fe : Nat → Int32) (mn : Nat → Int32) (pr : Nat → Int32) (hg : Nat → Int32) (al : Nat → Int32) (sd : Nat → Int32) (wh : Int32) : Int32 := (if (r_X5_in (Int32.toInt64 wh) 0 9) = 0 then (-10002) else (if wh ≤ 7 then (if (Y 3) = 0 then (-10003) else (lr_X5_about_58 Y ic fe mn pr hg al sd wh (fu ((Int32.toInt (r_X5_vials Y)).toNat + 1)) 0 0 0)) else (if wh = 8 then (Y 4) else (Y 5))))
theorem ck_X5_about : CK yX5_about cX5_about 5 (some .int) 1 := ⟨wd_3_73, wd_1_7, by decide, by decide, by decide +kernel⟩
set_option maxHeartbeats 4000000 in
set_option maxRecDepth 100000 in
theorem c_X5_about (l : Launch) (D : va_G) (cI : ClassId) (a : Nat → Nat) (Y : Nat → Int32) (ic : Nat → Int32) (fe : Nat → Int32) (mn : Nat → Int32) (pr : Nat → Int32) (hg : Nat → Int32) (al : Nat → Int32) (sd : Nat → Int32) (wh : Int32) (hv : Int32.toInt (r_X5_vials Y) ≤ 24) : MI l D cI yX5_about cX5_about 5 (some .int) 2 43 [.ref (a 0), .int wh] [yc a Y, ac cI (a 6) 48 ic, ac cI (a 9) 48 fe, ac cI (a 11) 2 mn, ac cI (a 12) 2 pr, ac cI (a 13) 2 hg, ac cI (a 14) 2 al, ac cI (a 15) 2 sd] (r_X5_about Y ic fe mn pr hg al sd wh) [yc a Y, ac cI (a 6) 48 ic, ac cI (a 9) 48 fe, ac cI (a 11) 2 mn, ac cI (a 12) 2 pr, ac cI (a 13) 2 hg, ac cI (a 14) 2 al, ac cI (a 15) 2 sd] := by
  generalize hr : (r_X5_about Y ic fe mn pr hg al sd wh) = r
  refine MI.mk (own := RX5) rfl (by decide) rfl (Nat.le_of_ble_eq_true rfl) ?_
  intro p e s m args below meth c A Q C hD hend H locs ls hP hS hl
  have hx := C.1.1
  have hb := C.1.2.1
  have hl : lv_has ls 5 [(0, .ref (a 0)), (1, .int wh)] := hl
  refine lv_iload_n hx hb dX5_about_0 rfl (lv_at hl 1 rfl) ?_
  refine lv_i2l (v := (Int32.toInt64 wh)) hx hb dX5_about_1 rfl ?_
  refine lv_lconst (v := 0) hx hb dX5_about_2 (by decide) ?_
  refine kldc2 (v := 9) C wd_3_74 dX5_about_3 ?_
  refine go_i (ws' := [yc a Y, ac cI (a 6) 48 ic, ac cI (a 9) 48 fe, ac cI (a 11) 2 mn, ac cI (a 12) 2 pr, ac cI (a 13) 2 hg, ac cI (a 14) 2 al, ac cI (a 15) 2 sd]) C (rn_S (As := [.long (Int32.toInt64 wh), .long 0, .long 9]) (rest := []) C (c_X5_in l D cI (Int32.toInt64 wh) 0 9 H.size) ck_X5_in wd_2_216 wd_2_215 ⟨Nat.le_of_ble_eq_true rfl, Nat.le_of_ble_eq_true rfl⟩ ⟨Nat.le_refl _, Nat.le_refl _⟩ hP hD hS [] rfl rfl hl rfl (Nat.le_of_ble_eq_true rfl) dX5_about_6) hP hD hS [] rfl rfl rfl (fun H locs hP hD hS => ?_)
  refine lv_if_ne (tgt := 16) hx hb dX5_about_9 (by decide) (fun c1 => ?_) (fun c1 => ?_)
  · refine lv_iload_n hx hb dX5_about_16 rfl (lv_at hl 1 rfl) ?_
    refine lv_bipush (v := 7) hx hb dX5_about_17 (by decide) ?_
    refine lv_icmp_le (tgt := 40) hx hb dX5_about_19 (by decide) (fun c2 => ?_) (fun c2 => ?_)
    · refine lv_aload_n hx hb dX5_about_40 rfl (lv_at hl 0 rfl) ?_
      refine kget (v := .int (Y 3)) C hP igX5 rfl 3 (by decide) wd_2_149 0 rfl rfl dX5_about_41 ?_
      refine lv_if_ne (tgt := 51) hx hb dX5_about_44 (by decide) (fun c3 => ?_) (fun c3 => ?_)
      · refine lv_iconst (v := 0) hx hb dX5_about_51 (by decide) ?_
        refine lv_istore_n (lv' := [(2, .int 0), (0, .ref (a 0)), (1, .int wh)]) hx hb dX5_about_52 rfl hl (by decide) rfl (fun ls hl => ?_)
        refine lv_iconst (v := 0) hx hb dX5_about_53 (by decide) ?_
        refine lv_istore_n (lv' := [(3, .int 0), (2, .int 0), (0, .ref (a 0)), (1, .int wh)]) hx hb dX5_about_54 rfl hl (by decide) rfl (fun ls hl => ?_)
        refine lv_iconst (v := 0) hx hb dX5_about_55 (by decide) ?_
        refine lv_istore (lv' := [(4, .int 0), (3, .int 0), (2, .int 0), (0, .ref (a 0)), (1, .int wh)]) hx hb dX5_about_56 hl (by decide) rfl (fun ls hl => ?_)
        have lp58 : ∀ (n : Nat) (su : Int32) (fl : Int32) (i : Int32), 0 ≤ Int32.toInt i → (Int32.toInt (r_X5_vials Y) - Int32.toInt i).toNat < n → lr_X5_about_58 Y ic fe mn pr hg al sd wh n su fl i = r → ∀ (ls : Array Slot) (H : Heap) (locs : List Loc), lv_has ls 5 [(0, .ref (a 0)), (1, .int wh), (2, .int su), (3, .int fl), (4, .int i)] → va_P D vwCl [yc a Y, ac cI (a 6) 48 ic, ac cI (a 9) 48 fe, ac cI (a 11) 2 mn, ac cI (a 12) 2 pr, ac cI (a 13) 2 hg, ac cI (a 14) 2 al, ac cI (a 15) 2 sd] H → va_D A [yc a Y, ac cI (a 6) 48 ic, ac cI (a 9) 48 fe, ac cI (a 11) 2 mn, ac cI (a 12) 2 pr, ac cI (a 13) 2 hg, ac cI (a 14) 2 al, ac cI (a 15) 2 sd] → va_S A s.heap H locs → W p l e (RM 2 43) s m args below meth c H locs 0 0 Q (F0 m 58 ls []) := by
          clear hl hP hD hS
          intro n
          induction n with
          | zero =>
            intro su fl i h0 hm
            exact absurd hm (Nat.not_lt_zero _)
          | succ n ih =>
            intro su fl i h0 hm hr ls H locs hl hP hD hS
            refine lv_iload hx hb dX5_about_58 (lv_at hl 4 rfl) ?_
            refine lv_aload_n hx hb dX5_about_60 rfl (lv_at hl 0 rfl) ?_
            refine go_i (ws' := [yc a Y, ac cI (a 6) 48 ic, ac cI (a 9) 48 fe, ac cI (a 11) 2 mn, ac cI (a 12) 2 pr, ac cI (a 13) 2 hg, ac cI (a 14) 2 al, ac cI (a 15) 2 sd]) C (rn_V (As := []) (rest := [.int i]) C (c_X5_vials l D cI a Y H.size) ck_X5_vials wd_2_221 wd_0_5 wd_2_219 ⟨Nat.le_of_ble_eq_true rfl, Nat.le_of_ble_eq_true rfl⟩ ⟨Nat.le_refl _, Nat.le_refl _⟩ (ci := 5) (q0 := 0) rfl rfl hP hD hS [0] rfl rfl hl rfl (Nat.le_of_ble_eq_true rfl) dX5_about_61) hP hD hS [0] rfl rfl rfl (fun H locs hP hD hS => ?_)
            refine lv_icmp_ge (tgt := 101) hx hb dX5_about_64 (by decide) (fun c4 => ?_) (fun c4 => ?_)
            · refine lv_iload_n hx hb dX5_about_101 rfl (lv_at hl 1 rfl) ?_
              by_cases c5 : wh = 0
              · refine lv_tableIn (off := 42) (tgt := 144) hx hb dX5_about_102 (by rw [c5]; decide) (by rw [c5]; decide) (by rw [c5]; rfl) (by decide) ?_
                refine lv_aload_n hx hb dX5_about_144 rfl (lv_at hl 0 rfl) ?_
                refine kget (v := .ref (a 11)) C hP igX5 rfl 11 (by decide) wd_2_157 0 rfl rfl dX5_about_145 ?_
                refine lv_iconst (v := 0) hx hb dX5_about_148 (by decide) ?_
                refine kald C hP 3 rfl (vp_in_iff.mpr (by decide)) (k := 0) rfl dX5_about_149 ?_
                exact hend _ _ _ _ _ (by rw [← hr, lr_X5_about_58, if_pos c4, if_pos c5]) hP hS dX5_about_150
              · skip
                by_cases c6 : wh = 1
                · refine lv_tableIn (off := 49) (tgt := 151) hx hb dX5_about_102 (by rw [c6]; decide) (by rw [c6]; decide) (by rw [c6]; rfl) (by decide) ?_
                  refine lv_aload_n hx hb dX5_about_151 rfl (lv_at hl 0 rfl) ?_
                  refine kget (v := .ref (a 12)) C hP igX5 rfl 12 (by decide) wd_2_158 0 rfl rfl dX5_about_152 ?_
                  refine lv_iconst (v := 0) hx hb dX5_about_155 (by decide) ?_
                  refine kald C hP 4 rfl (vp_in_iff.mpr (by decide)) (k := 0) rfl dX5_about_156 ?_
                  exact hend _ _ _ _ _ (by rw [← hr, lr_X5_about_58, if_pos c4, if_neg c5, if_pos c6]) hP hS dX5_about_157
                · skip
                  by_cases c7 : wh = 2
                  · refine lv_tableIn (off := 56) (tgt := 158) hx hb dX5_about_102 (by rw [c7]; decide) (by rw [c7]; decide) (by rw [c7]; rfl) (by decide) ?_
                    refine lv_iload_n hx hb dX5_about_158 rfl (lv_at hl 2 rfl) ?_
                    exact hend _ _ _ _ _ (by rw [← hr, lr_X5_about_58, if_pos c4, if_neg c5, if_neg c6, if_pos c7]) hP hS dX5_about_159
                  · skip
                    by_cases c8 : wh = 3
                    · refine lv_tableIn (off := 58) (tgt := 160) hx hb dX5_about_102 (by rw [c8]; decide) (by rw [c8]; decide) (by rw [c8]; rfl) (by decide) ?_
                      refine lv_aload_n hx hb dX5_about_160 rfl (lv_at hl 0 rfl) ?_
                      refine kget (v := .ref (a 15)) C hP igX5 rfl 15 (by decide) wd_2_161 0 rfl rfl dX5_about_161 ?_
                      refine lv_iconst (v := 0) hx hb dX5_about_164 (by decide) ?_
                      refine kald C hP 7 rfl (vp_in_iff.mpr (by decide)) (k := 0) rfl dX5_about_165 ?_
                      exact hend _ _ _ _ _ (by rw [← hr, lr_X5_about_58, if_pos c4, if_neg c5, if_neg c6, if_neg c7, if_pos c8]) hP hS dX5_about_166
                    · skip
                      by_cases c9 : wh = 4
                      · refine lv_tableIn (off := 65) (tgt := 167) hx hb dX5_about_102 (by rw [c9]; decide) (by rw [c9]; decide) (by rw [c9]; rfl) (by decide) ?_
                        refine lv_aload_n hx hb dX5_about_167 rfl (lv_at hl 0 rfl) ?_
                        refine kget (v := .ref (a 14)) C hP igX5 rfl 14 (by decide) wd_2_160 0 rfl rfl dX5_about_168 ?_
                        refine lv_iconst (v := 0) hx hb dX5_about_171 (by decide) ?_
                        refine kald C hP 6 rfl (vp_in_iff.mpr (by decide)) (k := 0) rfl dX5_about_172 ?_
                        exact hend _ _ _ _ _ (by rw [← hr, lr_X5_about_58, if_pos c4, if_neg c5, if_neg c6, if_neg c7, if_neg c8, if_pos c9]) hP hS dX5_about_173
                      · skip
                        by_cases c10 : wh = 5
                        · refine lv_tableIn (off := 72) (tgt := 174) hx hb dX5_about_102 (by rw [c10]; decide) (by rw [c10]; decide) (by rw [c10]; rfl) (by decide) ?_
                          refine lv_aload_n hx hb dX5_about_174 rfl (lv_at hl 0 rfl) ?_
                          refine kget (v := .ref (a 13)) C hP igX5 rfl 13 (by decide) wd_2_159 0 rfl rfl dX5_about_175 ?_
                          refine lv_iconst (v := 0) hx hb dX5_about_178 (by decide) ?_
                          refine kald C hP 5 rfl (vp_in_iff.mpr (by decide)) (k := 0) rfl dX5_about_179 ?_
                          exact hend _ _ _ _ _ (by rw [← hr, lr_X5_about_58, if_pos c4, if_neg c5, if_neg c6, if_neg c7, if_neg c8, if_neg c9, if_pos c10]) hP hS dX5_about_180
                        · skip
                          by_cases c11 : wh = 6
                          · refine lv_tableIn (off := 79) (tgt := 181) hx hb dX5_about_102 (by rw [c11]; decide) (by rw [c11]; decide) (by rw [c11]; rfl) (by decide) ?_
                            refine lv_iload_n hx hb dX5_about_181 rfl (lv_at hl 3 rfl) ?_
                            exact hend _ _ _ _ _ (by rw [← hr, lr_X5_about_58, if_pos c4, if_neg c5, if_neg c6, if_neg c7, if_neg c8, if_neg c9, if_neg c10, if_pos c11]) hP hS dX5_about_182
                          · skip
                            refine lv_tableOut (tgt := 183) hx hb dX5_about_102 (ts_out (fun k h1 h2 => by rcases (by omega : k = 0 ∨ k = 1 ∨ k = 2 ∨ k = 3 ∨ k = 4 ∨ k = 5 ∨ k = 6) with rfl | rfl | rfl | rfl | rfl | rfl | rfl <;> assumption)) (by decide) ?_
                            refine lv_aload_n hx hb dX5_about_183 rfl (lv_at hl 0 rfl) ?_
                            refine go_i (ws' := [yc a Y, ac cI (a 6) 48 ic, ac cI (a 9) 48 fe, ac cI (a 11) 2 mn, ac cI (a 12) 2 pr, ac cI (a 13) 2 hg, ac cI (a 14) 2 al, ac cI (a 15) 2 sd]) C (rn_V (As := []) (rest := []) C (c_X5_vials l D cI a Y H.size) ck_X5_vials wd_2_221 wd_0_5 wd_2_219 ⟨Nat.le_of_ble_eq_true rfl, Nat.le_of_ble_eq_true rfl⟩ ⟨Nat.le_refl _, Nat.le_refl _⟩ (ci := 5) (q0 := 0) rfl rfl hP hD hS [0] rfl rfl hl rfl (Nat.le_of_ble_eq_true rfl) dX5_about_184) hP hD hS [0] rfl rfl rfl (fun H locs hP hD hS => ?_)
                            refine lv_aload_n hx hb dX5_about_187 rfl (lv_at hl 0 rfl) ?_
                            refine lv_iconst (v := 0) hx hb dX5_about_188 (by decide) ?_
                            refine go_i (ws' := [yc a Y, ac cI (a 6) 48 ic, ac cI (a 9) 48 fe, ac cI (a 11) 2 mn, ac cI (a 12) 2 pr, ac cI (a 13) 2 hg, ac cI (a 14) 2 al, ac cI (a 15) 2 sd]) C (rn_V (As := [.int 0]) (rest := [.int (r_X5_vials Y)]) C (c_X5_wetOf l D cI a Y ic 0 (Or.inl rfl) hv H.size) ck_X5_wetOf wd_3_60 wd_0_12 wd_3_58 ⟨Nat.le_of_ble_eq_true rfl, Nat.le_of_ble_eq_true rfl⟩ ⟨Nat.le_refl _, Nat.le_refl _⟩ (ci := 5) (q0 := 0) rfl rfl hP hD hS [0, 1] rfl rfl hl rfl (Nat.le_of_ble_eq_true rfl) dX5_about_189) hP hD hS [0, 1] rfl rfl rfl (fun H locs hP hD hS => ?_)
                            refine lv_isub hx hb dX5_about_192 ?_
                            exact hend _ _ _ _ _ (by rw [← hr, lr_X5_about_58, if_pos c4, if_neg c5, if_neg c6, if_neg c7, if_neg c8, if_neg c9, if_neg c10, if_neg c11]) hP hS dX5_about_193
            · refine lv_iload_n hx hb dX5_about_67 rfl (lv_at hl 2 rfl) ?_
              refine lv_aload_n hx hb dX5_about_68 rfl (lv_at hl 0 rfl) ?_
              refine kget (v := .ref (a 6)) C hP igX5 rfl 6 (by decide) wd_2_152 0 rfl rfl dX5_about_69 ?_
              refine lv_iload hx hb dX5_about_72 (lv_at hl 4 rfl) ?_
              refine kald C hP 1 rfl (in_to48 (inV h0 hv c4)) (k := (Int32.toNatClampNeg i)) rfl dX5_about_74 ?_
              refine lv_iadd hx hb dX5_about_75 ?_
              refine lv_istore_n (lv' := [(2, .int (su + (ic (Int32.toNatClampNeg i)))), (0, .ref (a 0)), (1, .int wh), (3, .int fl), (4, .int i)]) hx hb dX5_about_76 rfl hl (by decide) rfl (fun ls hl => ?_)
              refine lv_iload_n hx hb dX5_about_77 rfl (lv_at hl 3 rfl) ?_
              refine lv_aload_n hx hb dX5_about_78 rfl (lv_at hl 1 rfl) ?_
              refine kget (v := .ref (a 9)) C hP igX5 rfl 9 (by decide) wd_2_155 0 rfl rfl dX5_about_79 ?_
              refine lv_iload hx hb dX5_about_82 (lv_at hl 4 rfl) ?_
              refine kald C hP 2 rfl (in_to48 (inV h0 hv c4)) (k := (Int32.toNatClampNeg i)) rfl dX5_about_84 ?_
              have j93 : ∀ (ls : Array Slot) (H : Heap) (locs : List Loc), lv_has ls 5 [(0, .ref (a 0)), (1, .int wh), (2, .int (su + (ic (Int32.toNatClampNeg i)))), (3, .int fl), (4, .int i)] → va_P D vwCl [yc a Y, ac cI (a 6) 48 ic, ac cI (a 9) 48 fe, ac cI (a 11) 2 mn, ac cI (a 12) 2 pr, ac cI (a 13) 2 hg, ac cI (a 14) 2 al, ac cI (a 15) 2 sd] H → va_D A [yc a Y, ac cI (a 6) 48 ic, ac cI (a 9) 48 fe, ac cI (a 11) 2 mn, ac cI (a 12) 2 pr, ac cI (a 13) 2 hg, ac cI (a 14) 2 al, ac cI (a 15) 2 sd] → va_S A s.heap H locs → W p l e (RM 2 43) s m args below meth c H locs 0 0 Q (F0 m 93 ls [.int (mg_X5_about_85 fe i), .int fl]) := by
                intro ls H locs hl hP hD hS
                refine lv_iadd hx hb dX5_about_93 ?_
                refine lv_istore_n (lv' := [(3, .int (fl + (mg_X5_about_85 fe i))), (0, .ref (a 0)), (1, .int wh), (2, .int (su + (ic (Int32.toNatClampNeg i)))), (4, .int i)]) hx hb dX5_about_94 rfl hl (by decide) rfl (fun ls hl => ?_)
                refine lv_iinc (v := (i + 1)) (lv' := [(4, .int (i + 1)), (3, .int (fl + (mg_X5_about_85 fe i))), (0, .ref (a 0)), (1, .int wh), (2, .int (su + (ic (Int32.toNatClampNeg i))))]) hx hb dX5_about_95 hl (k := 4) rfl rfl (by decide) rfl (fun ls hl => ?_)
                refine lv_goto (tgt := 58) hx hb dX5_about_98 (by decide) ?_
                exact ih (su + (ic (Int32.toNatClampNeg i))) (fl + (mg_X5_about_85 fe i)) (i + 1) (inc0 h0 c4) (cnt2_lt c4 hm) (by rw [← hr, lr_X5_about_58, if_neg c4]) ls H locs (lv_sub hl [2, 3, 4, 1, 0] rfl) hP hD hS
              refine lv_if_lt (tgt := 92) hx hb dX5_about_85 (by decide) (fun c12 => ?_) (fun c12 => ?_)
              · refine lv_iconst (v := 0) hx hb dX5_about_92 (by decide) ?_
                have e_mg_X5_about_85 : (mg_X5_about_85 fe i) = 0 := by rw [mg_X5_about_85, if_pos c12]
                have jj := j93
                rw [e_mg_X5_about_85] at jj
                exact jj ls H locs (lv_sub hl [1, 2, 0, 3, 4] rfl) hP hD hS
              · refine lv_iconst (v := 1) hx hb dX5_about_88 (by decide) ?_
                refine lv_goto (tgt := 93) hx hb dX5_about_89 (by decide) ?_
                have e_mg_X5_about_85 : (mg_X5_about_85 fe i) = 1 := by rw [mg_X5_about_85, if_neg c12]
                have jj := j93
                rw [e_mg_X5_about_85] at jj
                exact jj ls H locs (lv_sub hl [1, 2, 0, 3, 4] rfl) hP hD hS
        exact lp58 (fu ((Int32.toInt (r_X5_vials Y)).toNat + 1)) 0 0 0 (by decide) (by rw [fu_eq]; have e0 : (0 : Int32).toInt = 0 := rfl; omega) (by rw [← hr, r_X5_about, if_neg c1, if_pos c2, if_neg c3]) ls H locs (lv_sub hl [3, 4, 2, 1, 0] rfl) hP hD hS
      · refine lv_sipush (v := (-10003)) hx hb dX5_about_47 (by decide) ?_
        exact hend _ _ _ _ _ (by rw [← hr, r_X5_about, if_neg c1, if_pos c2, if_pos c3]) hP hS dX5_about_50
    · refine lv_iload_n hx hb dX5_about_22 rfl (lv_at hl 1 rfl) ?_
      refine lv_bipush (v := 8) hx hb dX5_about_23 (by decide) ?_
      refine lv_icmp_ne (tgt := 35) hx hb dX5_about_25 (by decide) (fun c13 => ?_) (fun c13 => ?_)
      · refine lv_aload_n hx hb dX5_about_35 rfl (lv_at hl 0 rfl) ?_
        refine kget (v := .int (Y 5)) C hP igX5 rfl 5 (by decide) wd_2_151 0 rfl rfl dX5_about_36 ?_
        exact hend _ _ _ _ _ (by rw [← hr, r_X5_about, if_neg c1, if_neg c2, if_neg c13]) hP hS dX5_about_39
      · refine lv_aload_n hx hb dX5_about_28 rfl (lv_at hl 0 rfl) ?_
        refine kget (v := .int (Y 4)) C hP igX5 rfl 4 (by decide) wd_2_150 0 rfl rfl dX5_about_29 ?_
        refine lv_goto (tgt := 39) hx hb dX5_about_32 (by decide) ?_
        exact hend _ _ _ _ _ (by rw [← hr, r_X5_about, if_neg c1, if_neg c2, if_pos c13]) hP hS dX5_about_39
  · refine lv_sipush (v := (-10002)) hx hb dX5_about_12 (by decide) ?_
    exact hend _ _ _ _ _ (by rw [← hr, r_X5_about, if_pos c1]) hP hS dX5_about_15
def r_X5_gauge (Y : Nat → Int32) (mn : Nat → Int32) (on : Nat → Int32) (ot : Nat → Int32) (mi : Int32) (wh : Int32) : Int32 := (if (Y 3) = 0 then (-3) else (if (r_X5_in (Int32.toInt64 mi) 1 (Int32.toInt64 (mn 0))) = 0 then (-1) else (if wh = 0 then (on (Int32.toNatClampNeg mi)) else (if wh = 1 then (ot (Int32.toNatClampNeg mi)) else (-2)))))
theorem ck_X5_gauge : CK yX5_gauge cX5_gauge 3 (some .int) 2 := ⟨wd_3_78, wd_1_7, by decide, by decide, by decide +kernel⟩
set_option maxHeartbeats 4000000 in
set_option maxRecDepth 100000 in
theorem c_X5_gauge (l : Launch) (D : va_G) (cI : ClassId) (a : Nat → Nat) (Y : Nat → Int32) (mn : Nat → Int32) (on : Nat → Int32) (ot : Nat → Int32) (mi : Int32) (wh : Int32) (hm2 : Int32.toInt (mn 0) ≤ 2000) : MI l D cI yX5_gauge cX5_gauge 3 (some .int) 1 25 [.ref (a 0), .int mi, .int wh] [yc a Y, ac cI (a 11) 2 mn, ac cI (a 16) 2001 on, ac cI (a 17) 2001 ot] (r_X5_gauge Y mn on ot mi wh) [yc a Y, ac cI (a 11) 2 mn, ac cI (a 16) 2001 on, ac cI (a 17) 2001 ot] := by
  generalize hr : (r_X5_gauge Y mn on ot mi wh) = r
  refine MI.mk (own := RX5) rfl (by decide) rfl (Nat.le_of_ble_eq_true rfl) ?_
  intro p e s m args below meth c A Q C hD hend H locs ls hP hS hl
  have hx := C.1.1
  have hb := C.1.2.1
  have hl : lv_has ls 3 [(0, .ref (a 0)), (1, .int mi), (2, .int wh)] := hl
  refine lv_aload_n hx hb dX5_gauge_0 rfl (lv_at hl 0 rfl) ?_
  refine kget (v := .int (Y 3)) C hP igX5 rfl 3 (by decide) wd_2_149 0 rfl rfl dX5_gauge_1 ?_
  refine lv_if_ne (tgt := 10) hx hb dX5_gauge_4 (by decide) (fun c1 => ?_) (fun c1 => ?_)
  · refine lv_iload_n hx hb dX5_gauge_10 rfl (lv_at hl 1 rfl) ?_
    refine lv_i2l (v := (Int32.toInt64 mi)) hx hb dX5_gauge_11 rfl ?_
    refine lv_lconst (v := 1) hx hb dX5_gauge_12 (by decide) ?_
    refine lv_aload_n hx hb dX5_gauge_13 rfl (lv_at hl 0 rfl) ?_
    refine kget (v := .ref (a 11)) C hP igX5 rfl 11 (by decide) wd_2_157 0 rfl rfl dX5_gauge_14 ?_
    refine lv_iconst (v := 0) hx hb dX5_gauge_17 (by decide) ?_
    refine kald C hP 1 rfl (vp_in_iff.mpr (by decide)) (k := 0) rfl dX5_gauge_18 ?_
    refine lv_i2l (v := (Int32.toInt64 (mn 0))) hx hb dX5_gauge_19 rfl ?_
    refine go_i (ws' := [yc a Y, ac cI (a 11) 2 mn, ac cI (a 16) 2001 on, ac cI (a 17) 2001 ot]) C (rn_S (As := [.long (Int32.toInt64 mi), .long 1, .long (Int32.toInt64 (mn 0))]) (rest := []) C (c_X5_in l D cI (Int32.toInt64 mi) 1 (Int32.toInt64 (mn 0)) H.size) ck_X5_in wd_2_216 wd_2_215 ⟨Nat.le_of_ble_eq_true rfl, Nat.le_of_ble_eq_true rfl⟩ ⟨Nat.le_refl _, Nat.le_refl _⟩ hP hD hS [] rfl rfl hl rfl (Nat.le_of_ble_eq_true rfl) dX5_gauge_20) hP hD hS [] rfl rfl rfl (fun H locs hP hD hS => ?_)
    refine lv_if_ne (tgt := 28) hx hb dX5_gauge_23 (by decide) (fun c2 => ?_) (fun c2 => ?_)
    · refine lv_iload_n hx hb dX5_gauge_28 rfl (lv_at hl 2 rfl) ?_
      refine lv_if_ne (tgt := 41) hx hb dX5_gauge_29 (by decide) (fun c3 => ?_) (fun c3 => ?_)
      · refine lv_iload_n hx hb dX5_gauge_41 rfl (lv_at hl 2 rfl) ?_
        refine lv_iconst (v := 1) hx hb dX5_gauge_42 (by decide) ?_
        refine lv_icmp_ne (tgt := 55) hx hb dX5_gauge_43 (by decide) (fun c4 => ?_) (fun c4 => ?_)
        · refine lv_bipush (v := (-2)) hx hb dX5_gauge_55 (by decide) ?_
          exact hend _ _ _ _ _ (by rw [← hr, r_X5_gauge, if_neg c1, if_neg c2, if_neg c3, if_neg c4]) hP hS dX5_gauge_57
        · refine lv_aload_n hx hb dX5_gauge_46 rfl (lv_at hl 0 rfl) ?_
          refine kget (v := .ref (a 17)) C hP igX5 rfl 17 (by decide) wd_2_163 0 rfl rfl dX5_gauge_47 ?_
          refine lv_iload_n hx hb dX5_gauge_50 rfl (lv_at hl 1 rfl) ?_
          refine kald C hP 3 rfl (in_min1 hm2 c2) (k := (Int32.toNatClampNeg mi)) rfl dX5_gauge_51 ?_
          refine lv_goto (tgt := 57) hx hb dX5_gauge_52 (by decide) ?_
          exact hend _ _ _ _ _ (by rw [← hr, r_X5_gauge, if_neg c1, if_neg c2, if_neg c3, if_pos c4]) hP hS dX5_gauge_57
      · refine lv_aload_n hx hb dX5_gauge_32 rfl (lv_at hl 0 rfl) ?_
        refine kget (v := .ref (a 16)) C hP igX5 rfl 16 (by decide) wd_2_162 0 rfl rfl dX5_gauge_33 ?_
        refine lv_iload_n hx hb dX5_gauge_36 rfl (lv_at hl 1 rfl) ?_
        refine kald C hP 2 rfl (in_min1 hm2 c2) (k := (Int32.toNatClampNeg mi)) rfl dX5_gauge_37 ?_
        refine lv_goto (tgt := 57) hx hb dX5_gauge_38 (by decide) ?_
        exact hend _ _ _ _ _ (by rw [← hr, r_X5_gauge, if_neg c1, if_neg c2, if_pos c3]) hP hS dX5_gauge_57
    · refine lv_iconst (v := (-1)) hx hb dX5_gauge_26 (by decide) ?_
      exact hend _ _ _ _ _ (by rw [← hr, r_X5_gauge, if_neg c1, if_pos c2]) hP hS dX5_gauge_27
  · refine lv_bipush (v := (-3)) hx hb dX5_gauge_7 (by decide) ?_
    exact hend _ _ _ _ _ (by rw [← hr, r_X5_gauge, if_pos c1]) hP hS dX5_gauge_9
def mg_X5_end_69 (on : Nat → Int32) (ot : Nat → Int32) (to : Int32) (tg : Int32) (mi : Int32) : Int32 := (if to < ((ot (Int32.toNatClampNeg mi)) - (on (Int32.toNatClampNeg mi))) then 0 else (tg + 1))
def lr_X5_end_42 (mn : Nat → Int32) (on : Nat → Int32) (ot : Nat → Int32) (to : Int32) (hd : Int32) : Nat → (Int32) → (Int32) → (Int32)
  | 0, _, _ => 0
  | n + 1, tg, mi => (if (mn 0) < mi then (-6) else (if (mg_X5_end_69 on ot to tg mi) = hd then mi else (lr_X5_end_42 mn on ot to hd n (mg_X5_end_69 on ot to tg mi) (mi + 1))))
noncomputable def r_X5_end (Y : Nat → Int32) (mn : Nat → Int32) (on : Nat → Int32) (ot : Nat → Int32) (to : Int32) (hd : Int32) : Int32 := (if (r_X5_in (Int32.toInt64 to) 0 100) = 0 then (-2) else (if (r_X5_in (Int32.toInt64 hd) 1 60) = 0 then (-2) else (if (Y 3) = 0 then (-3) else (lr_X5_end_42 mn on ot to hd (fu ((Int32.toInt (mn 0)).toNat + 1)) 0 1))))
theorem ck_X5_end : CK yX5_end cX5_end 5 (some .int) 2 := ⟨wd_3_82, wd_1_7, by decide, by decide, by decide +kernel⟩
set_option maxHeartbeats 4000000 in
set_option maxRecDepth 100000 in
theorem c_X5_end (l : Launch) (D : va_G) (cI : ClassId) (a : Nat → Nat) (Y : Nat → Int32) (mn : Nat → Int32) (on : Nat → Int32) (ot : Nat → Int32) (to : Int32) (hd : Int32) (hm2 : Int32.toInt (mn 0) ≤ 2000) : MI l D cI yX5_end cX5_end 5 (some .int) 1 25 [.ref (a 0), .int to, .int hd] [yc a Y, ac cI (a 11) 2 mn, ac cI (a 16) 2001 on, ac cI (a 17) 2001 ot] (r_X5_end Y mn on ot to hd) [yc a Y, ac cI (a 11) 2 mn, ac cI (a 16) 2001 on, ac cI (a 17) 2001 ot] := by
  generalize hr : (r_X5_end Y mn on ot to hd) = r
  refine MI.mk (own := RX5) rfl (by decide) rfl (Nat.le_of_ble_eq_true rfl) ?_
  intro p e s m args below meth c A Q C hD hend H locs ls hP hS hl
  have hx := C.1.1
  have hb := C.1.2.1
  have hl : lv_has ls 5 [(0, .ref (a 0)), (1, .int to), (2, .int hd)] := hl
  refine lv_iload_n hx hb dX5_end_0 rfl (lv_at hl 1 rfl) ?_
  refine lv_i2l (v := (Int32.toInt64 to)) hx hb dX5_end_1 rfl ?_
  refine lv_lconst (v := 0) hx hb dX5_end_2 (by decide) ?_
  refine kldc2 (v := 100) C wd_3_9 dX5_end_3 ?_
  refine go_i (ws' := [yc a Y, ac cI (a 11) 2 mn, ac cI (a 16) 2001 on, ac cI (a 17) 2001 ot]) C (rn_S (As := [.long (Int32.toInt64 to), .long 0, .long 100]) (rest := []) C (c_X5_in l D cI (Int32.toInt64 to) 0 100 H.size) ck_X5_in wd_2_216 wd_2_215 ⟨Nat.le_of_ble_eq_true rfl, Nat.le_of_ble_eq_true rfl⟩ ⟨Nat.le_refl _, Nat.le_refl _⟩ hP hD hS [] rfl rfl hl rfl (Nat.le_of_ble_eq_true rfl) dX5_end_6) hP hD hS [] rfl rfl rfl (fun H locs hP hD hS => ?_)
  refine lv_if_eq (tgt := 24) hx hb dX5_end_9 (by decide) (fun c1 => ?_) (fun c1 => ?_)
  · refine lv_bipush (v := (-2)) hx hb dX5_end_24 (by decide) ?_
    exact hend _ _ _ _ _ (by rw [← hr, r_X5_end, if_pos c1]) hP hS dX5_end_26
  · refine lv_iload_n hx hb dX5_end_12 rfl (lv_at hl 2 rfl) ?_
    refine lv_i2l (v := (Int32.toInt64 hd)) hx hb dX5_end_13 rfl ?_
    refine lv_lconst (v := 1) hx hb dX5_end_14 (by decide) ?_
    refine kldc2 (v := 60) C wd_3_83 dX5_end_15 ?_
    refine go_i (ws' := [yc a Y, ac cI (a 11) 2 mn, ac cI (a 16) 2001 on, ac cI (a 17) 2001 ot]) C (rn_S (As := [.long (Int32.toInt64 hd), .long 1, .long 60]) (rest := []) C (c_X5_in l D cI (Int32.toInt64 hd) 1 60 H.size) ck_X5_in wd_2_216 wd_2_215 ⟨Nat.le_of_ble_eq_true rfl, Nat.le_of_ble_eq_true rfl⟩ ⟨Nat.le_refl _, Nat.le_refl _⟩ hP hD hS [] rfl rfl hl rfl (Nat.le_of_ble_eq_true rfl) dX5_end_18) hP hD hS [] rfl rfl rfl (fun H locs hP hD hS => ?_)
    refine lv_if_ne (tgt := 27) hx hb dX5_end_21 (by decide) (fun c2 => ?_) (fun c2 => ?_)
    · refine lv_aload_n hx hb dX5_end_27 rfl (lv_at hl 0 rfl) ?_
      refine kget (v := .int (Y 3)) C hP igX5 rfl 3 (by decide) wd_2_149 0 rfl rfl dX5_end_28 ?_
      refine lv_if_ne (tgt := 37) hx hb dX5_end_31 (by decide) (fun c3 => ?_) (fun c3 => ?_)
      · refine lv_iconst (v := 0) hx hb dX5_end_37 (by decide) ?_
        refine lv_istore_n (lv' := [(3, .int 0), (0, .ref (a 0)), (1, .int to), (2, .int hd)]) hx hb dX5_end_38 rfl hl (by decide) rfl (fun ls hl => ?_)
        refine lv_iconst (v := 1) hx hb dX5_end_39 (by decide) ?_
        refine lv_istore (lv' := [(4, .int 1), (3, .int 0), (0, .ref (a 0)), (1, .int to), (2, .int hd)]) hx hb dX5_end_40 hl (by decide) rfl (fun ls hl => ?_)
        have lp42 : ∀ (n : Nat) (tg : Int32) (mi : Int32), 1 ≤ Int32.toInt mi → (Int32.toInt (mn 0) + 1 - Int32.toInt mi).toNat < n → lr_X5_end_42 mn on ot to hd n tg mi = r → ∀ (ls : Array Slot) (H : Heap) (locs : List Loc), lv_has ls 5 [(0, .ref (a 0)), (1, .int to), (2, .int hd), (3, .int tg), (4, .int mi)] → va_P D vwCl [yc a Y, ac cI (a 11) 2 mn, ac cI (a 16) 2001 on, ac cI (a 17) 2001 ot] H → va_D A [yc a Y, ac cI (a 11) 2 mn, ac cI (a 16) 2001 on, ac cI (a 17) 2001 ot] → va_S A s.heap H locs → W p l e (RM 1 25) s m args below meth c H locs 0 0 Q (F0 m 42 ls []) := by
          clear hl hP hD hS
          intro n
          induction n with
          | zero =>
            intro tg mi h0 hm
            exact absurd hm (Nat.not_lt_zero _)
          | succ n ih =>
            intro tg mi h0 hm hr ls H locs hl hP hD hS
            refine lv_iload hx hb dX5_end_42 (lv_at hl 4 rfl) ?_
            refine lv_aload_n hx hb dX5_end_44 rfl (lv_at hl 0 rfl) ?_
            refine kget (v := .ref (a 11)) C hP igX5 rfl 11 (by decide) wd_2_157 0 rfl rfl dX5_end_45 ?_
            refine lv_iconst (v := 0) hx hb dX5_end_48 (by decide) ?_
            refine kald C hP 1 rfl (vp_in_iff.mpr (by decide)) (k := 0) rfl dX5_end_49 ?_
            refine lv_icmp_gt (tgt := 94) hx hb dX5_end_50 (by decide) (fun c4 => ?_) (fun c4 => ?_)
            · refine lv_bipush (v := (-6)) hx hb dX5_end_94 (by decide) ?_
              exact hend _ _ _ _ _ (by rw [← hr, lr_X5_end_42, if_pos c4]) hP hS dX5_end_96
            · refine lv_aload_n hx hb dX5_end_53 rfl (lv_at hl 0 rfl) ?_
              refine kget (v := .ref (a 17)) C hP igX5 rfl 17 (by decide) wd_2_163 0 rfl rfl dX5_end_54 ?_
              refine lv_iload hx hb dX5_end_57 (lv_at hl 4 rfl) ?_
              refine kald C hP 3 rfl (in_end hm2 h0 c4) (k := (Int32.toNatClampNeg mi)) rfl dX5_end_59 ?_
              refine lv_aload_n hx hb dX5_end_60 rfl (lv_at hl 0 rfl) ?_
              refine kget (v := .ref (a 16)) C hP igX5 rfl 16 (by decide) wd_2_162 0 rfl rfl dX5_end_61 ?_
              refine lv_iload hx hb dX5_end_64 (lv_at hl 4 rfl) ?_
              refine kald C hP 2 rfl (in_end hm2 h0 c4) (k := (Int32.toNatClampNeg mi)) rfl dX5_end_66 ?_
              refine lv_isub hx hb dX5_end_67 ?_
              refine lv_iload_n hx hb dX5_end_68 rfl (lv_at hl 1 rfl) ?_
              have j79 : ∀ (ls : Array Slot) (H : Heap) (locs : List Loc), lv_has ls 5 [(0, .ref (a 0)), (1, .int to), (2, .int hd), (3, .int tg), (4, .int mi)] → va_P D vwCl [yc a Y, ac cI (a 11) 2 mn, ac cI (a 16) 2001 on, ac cI (a 17) 2001 ot] H → va_D A [yc a Y, ac cI (a 11) 2 mn, ac cI (a 16) 2001 on, ac cI (a 17) 2001 ot] → va_S A s.heap H locs → W p l e (RM 1 25) s m args below meth c H locs 0 0 Q (F0 m 79 ls [.int (mg_X5_end_69 on ot to tg mi)]) := by
                intro ls H locs hl hP hD hS
                refine lv_istore_n (lv' := [(3, .int (mg_X5_end_69 on ot to tg mi)), (0, .ref (a 0)), (1, .int to), (2, .int hd), (4, .int mi)]) hx hb dX5_end_79 rfl hl (by decide) rfl (fun ls hl => ?_)
                refine lv_iload_n hx hb dX5_end_80 rfl (lv_at hl 0 rfl) ?_
                refine lv_iload_n hx hb dX5_end_81 rfl (lv_at hl 3 rfl) ?_
                refine lv_icmp_ne (tgt := 88) hx hb dX5_end_82 (by decide) (fun c6 => ?_) (fun c6 => ?_)
                · refine lv_iinc (v := (mi + 1)) (lv' := [(4, .int (mi + 1)), (3, .int (mg_X5_end_69 on ot to tg mi)), (0, .ref (a 0)), (1, .int to), (2, .int hd)]) hx hb dX5_end_88 hl (k := 4) rfl rfl (by decide) rfl (fun ls hl => ?_)
                  refine lv_goto (tgt := 42) hx hb dX5_end_91 (by decide) ?_
                  exact ih (mg_X5_end_69 on ot to tg mi) (mi + 1) (inc_end hm2 h0 c4) (cnt_lt (by omega) c4 hm) (by rw [← hr, lr_X5_end_42, if_neg c4, if_neg c6]) ls H locs (lv_sub hl [2, 3, 4, 1, 0] rfl) hP hD hS
                · refine lv_iload hx hb dX5_end_85 (lv_at hl 4 rfl) ?_
                  exact hend _ _ _ _ _ (by rw [← hr, lr_X5_end_42, if_neg c4, if_pos c6]) hP hS dX5_end_87
              refine lv_icmp_gt (tgt := 78) hx hb dX5_end_69 (by decide) (fun c5 => ?_) (fun c5 => ?_)
              · refine lv_iconst (v := 0) hx hb dX5_end_78 (by decide) ?_
                have e_mg_X5_end_69 : (mg_X5_end_69 on ot to tg mi) = 0 := by rw [mg_X5_end_69, if_pos c5]
                have jj := j79
                rw [e_mg_X5_end_69] at jj
                exact jj ls H locs (lv_sub hl [0, 1, 2, 3, 4] rfl) hP hD hS
              · refine lv_iload_n hx hb dX5_end_72 rfl (lv_at hl 3 rfl) ?_
                refine lv_iconst (v := 1) hx hb dX5_end_73 (by decide) ?_
                refine lv_iadd hx hb dX5_end_74 ?_
                refine lv_goto (tgt := 79) hx hb dX5_end_75 (by decide) ?_
                have e_mg_X5_end_69 : (mg_X5_end_69 on ot to tg mi) = (tg + 1) := by rw [mg_X5_end_69, if_neg c5]
                have jj := j79
                rw [e_mg_X5_end_69] at jj
                exact jj ls H locs (lv_sub hl [0, 1, 2, 3, 4] rfl) hP hD hS
        exact lp42 (fu ((Int32.toInt (mn 0)).toNat + 1)) 0 1 (by decide) (by rw [fu_eq]; have e1 : (1 : Int32).toInt = 1 := rfl; omega) (by rw [← hr, r_X5_end, if_neg c1, if_neg c2, if_neg c3]) ls H locs (lv_sub hl [2, 3, 4, 1, 0] rfl) hP hD hS
      · refine lv_bipush (v := (-3)) hx hb dX5_end_34 (by decide) ?_
        exact hend _ _ _ _ _ (by rw [← hr, r_X5_end, if_neg c1, if_neg c2, if_pos c3]) hP hS dX5_end_36
    · refine lv_bipush (v := (-2)) hx hb dX5_end_24 (by decide) ?_
      exact hend _ _ _ _ _ (by rw [← hr, r_X5_end, if_neg c1, if_pos c2]) hP hS dX5_end_26
def r_X5_wet (Y : Nat → Int32) (mn : Nat → Int32) (we : Nat → Int32) (mi : Int32) : Int32 := (if (Y 3) = 0 then (-3) else (if (r_X5_in (Int32.toInt64 mi) 0 (Int32.toInt64 (mn 0))) = 0 then (-1) else (we (Int32.toNatClampNeg mi))))
theorem ck_X5_wet : CK yX5_wet cX5_wet 2 (some .int) 1 := ⟨wd_3_87, wd_1_7, by decide, by decide, by decide +kernel⟩
set_option maxHeartbeats 4000000 in
set_option maxRecDepth 100000 in
theorem c_X5_wet (l : Launch) (D : va_G) (cI : ClassId) (a : Nat → Nat) (Y : Nat → Int32) (mn : Nat → Int32) (we : Nat → Int32) (mi : Int32) (hm2 : Int32.toInt (mn 0) ≤ 2000) : MI l D cI yX5_wet cX5_wet 2 (some .int) 1 25 [.ref (a 0), .int mi] [yc a Y, ac cI (a 11) 2 mn, ac cI (a 18) 2001 we] (r_X5_wet Y mn we mi) [yc a Y, ac cI (a 11) 2 mn, ac cI (a 18) 2001 we] := by
  generalize hr : (r_X5_wet Y mn we mi) = r
  refine MI.mk (own := RX5) rfl (by decide) rfl (Nat.le_of_ble_eq_true rfl) ?_
  intro p e s m args below meth c A Q C hD hend H locs ls hP hS hl
  have hx := C.1.1
  have hb := C.1.2.1
  have hl : lv_has ls 2 [(0, .ref (a 0)), (1, .int mi)] := hl
  refine lv_aload_n hx hb dX5_wet_0 rfl (lv_at hl 0 rfl) ?_
  refine kget (v := .int (Y 3)) C hP igX5 rfl 3 (by decide) wd_2_149 0 rfl rfl dX5_wet_1 ?_
  refine lv_if_ne (tgt := 10) hx hb dX5_wet_4 (by decide) (fun c1 => ?_) (fun c1 => ?_)
  · refine lv_iload_n hx hb dX5_wet_10 rfl (lv_at hl 1 rfl) ?_
    refine lv_i2l (v := (Int32.toInt64 mi)) hx hb dX5_wet_11 rfl ?_
    refine lv_lconst (v := 0) hx hb dX5_wet_12 (by decide) ?_
    refine lv_aload_n hx hb dX5_wet_13 rfl (lv_at hl 0 rfl) ?_
    refine kget (v := .ref (a 11)) C hP igX5 rfl 11 (by decide) wd_2_157 0 rfl rfl dX5_wet_14 ?_
    refine lv_iconst (v := 0) hx hb dX5_wet_17 (by decide) ?_
    refine kald C hP 1 rfl (vp_in_iff.mpr (by decide)) (k := 0) rfl dX5_wet_18 ?_
    refine lv_i2l (v := (Int32.toInt64 (mn 0))) hx hb dX5_wet_19 rfl ?_
    refine go_i (ws' := [yc a Y, ac cI (a 11) 2 mn, ac cI (a 18) 2001 we]) C (rn_S (As := [.long (Int32.toInt64 mi), .long 0, .long (Int32.toInt64 (mn 0))]) (rest := []) C (c_X5_in l D cI (Int32.toInt64 mi) 0 (Int32.toInt64 (mn 0)) H.size) ck_X5_in wd_2_216 wd_2_215 ⟨Nat.le_of_ble_eq_true rfl, Nat.le_of_ble_eq_true rfl⟩ ⟨Nat.le_refl _, Nat.le_refl _⟩ hP hD hS [] rfl rfl hl rfl (Nat.le_of_ble_eq_true rfl) dX5_wet_20) hP hD hS [] rfl rfl rfl (fun H locs hP hD hS => ?_)
    refine lv_if_eq (tgt := 35) hx hb dX5_wet_23 (by decide) (fun c2 => ?_) (fun c2 => ?_)
    · refine lv_iconst (v := (-1)) hx hb dX5_wet_35 (by decide) ?_
      exact hend _ _ _ _ _ (by rw [← hr, r_X5_wet, if_neg c1, if_pos c2]) hP hS dX5_wet_36
    · refine lv_aload_n hx hb dX5_wet_26 rfl (lv_at hl 0 rfl) ?_
      refine kget (v := .ref (a 18)) C hP igX5 rfl 18 (by decide) wd_2_164 0 rfl rfl dX5_wet_27 ?_
      refine lv_iload_n hx hb dX5_wet_30 rfl (lv_at hl 1 rfl) ?_
      refine kald C hP 2 rfl (in_min0 hm2 c2) (k := (Int32.toNatClampNeg mi)) rfl dX5_wet_31 ?_
      refine lv_goto (tgt := 36) hx hb dX5_wet_32 (by decide) ?_
      exact hend _ _ _ _ _ (by rw [← hr, r_X5_wet, if_neg c1, if_neg c2]) hP hS dX5_wet_36
  · refine lv_bipush (v := (-3)) hx hb dX5_wet_7 (by decide) ?_
    exact hend _ _ _ _ _ (by rw [← hr, r_X5_wet, if_pos c1]) hP hS dX5_wet_9
noncomputable def r_X5_firstFallen (Y : Nat → Int32) (fe : Nat → Int32) : Int32 := (if (Y 3) = 0 then (-3) else (r_X5_firstOf Y fe 0))
theorem ck_X5_firstFallen : CK yX5_firstFallen cX5_firstFallen 1 (some .int) 0 := ⟨wd_3_91, wd_1_7, by decide, by decide, by decide +kernel⟩
set_option maxHeartbeats 4000000 in
set_option maxRecDepth 100000 in
theorem c_X5_firstFallen (l : Launch) (D : va_G) (cI : ClassId) (a : Nat → Nat) (Y : Nat → Int32) (fe : Nat → Int32) (hv : Int32.toInt (r_X5_vials Y) ≤ 24) : MI l D cI yX5_firstFallen cX5_firstFallen 1 (some .int) 2 44 [.ref (a 0)] [yc a Y, ac cI (a 9) 48 fe] (r_X5_firstFallen Y fe) [yc a Y, ac cI (a 9) 48 fe] := by
  generalize hr : (r_X5_firstFallen Y fe) = r
  refine MI.mk (own := RX5) rfl (by decide) rfl (Nat.le_of_ble_eq_true rfl) ?_
  intro p e s m args below meth c A Q C hD hend H locs ls hP hS hl
  have hx := C.1.1
  have hb := C.1.2.1
  have hl : lv_has ls 1 [(0, .ref (a 0))] := hl
  refine lv_aload_n hx hb dX5_firstFallen_0 rfl (lv_at hl 0 rfl) ?_
  refine kget (v := .int (Y 3)) C hP igX5 rfl 3 (by decide) wd_2_149 0 rfl rfl dX5_firstFallen_1 ?_
  refine lv_if_eq (tgt := 15) hx hb dX5_firstFallen_4 (by decide) (fun c1 => ?_) (fun c1 => ?_)
  · refine lv_bipush (v := (-3)) hx hb dX5_firstFallen_15 (by decide) ?_
    exact hend _ _ _ _ _ (by rw [← hr, r_X5_firstFallen, if_pos c1]) hP hS dX5_firstFallen_17
  · refine lv_aload_n hx hb dX5_firstFallen_7 rfl (lv_at hl 0 rfl) ?_
    refine lv_iconst (v := 0) hx hb dX5_firstFallen_8 (by decide) ?_
    refine go_i (ws' := [yc a Y, ac cI (a 9) 48 fe]) C (rn_V (As := [.int 0]) (rest := []) C (c_X5_firstOf l D cI a Y fe 0 (Or.inl rfl) hv H.size) ck_X5_firstOf wd_3_94 wd_0_13 wd_3_92 ⟨Nat.le_of_ble_eq_true rfl, Nat.le_of_ble_eq_true rfl⟩ ⟨Nat.le_refl _, Nat.le_refl _⟩ (ci := 5) (q0 := 0) rfl rfl hP hD hS [0, 1] rfl rfl hl rfl (Nat.le_of_ble_eq_true rfl) dX5_firstFallen_9) hP hD hS [0, 1] rfl rfl rfl (fun H locs hP hD hS => ?_)
    refine lv_goto (tgt := 17) hx hb dX5_firstFallen_12 (by decide) ?_
    exact hend _ _ _ _ _ (by rw [← hr, r_X5_firstFallen, if_neg c1]) hP hS dX5_firstFallen_17
def r_X5_tried (Y : Nat → Int32) (tr : Nat → Int32) (k : Int32) : Int32 := (if (r_X5_in (Int32.toInt64 k) 0 4) = 0 then (-2) else (if (Y 19) = 0 then (-3) else (tr (Int32.toNatClampNeg k))))
theorem ck_X5_tried : CK yX5_tried cX5_tried 2 (some .int) 1 := ⟨wd_3_107, wd_1_7, by decide, by decide, by decide +kernel⟩
set_option maxHeartbeats 4000000 in
set_option maxRecDepth 100000 in
theorem c_X5_tried (l : Launch) (D : va_G) (cI : ClassId) (a : Nat → Nat) (Y : Nat → Int32) (tr : Nat → Int32) (k : Int32) : MI l D cI yX5_tried cX5_tried 2 (some .int) 1 25 [.ref (a 0), .int k] [yc a Y, ac cI (a 20) 5 tr] (r_X5_tried Y tr k) [yc a Y, ac cI (a 20) 5 tr] := by
  generalize hr : (r_X5_tried Y tr k) = r
  refine MI.mk (own := RX5) rfl (by decide) rfl (Nat.le_of_ble_eq_true rfl) ?_
  intro p e s m args below meth c A Q C hD hend H locs ls hP hS hl
  have hx := C.1.1
  have hb := C.1.2.1
  have hl : lv_has ls 2 [(0, .ref (a 0)), (1, .int k)] := hl
  refine lv_iload_n hx hb dX5_tried_0 rfl (lv_at hl 1 rfl) ?_
  refine lv_i2l (v := (Int32.toInt64 k)) hx hb dX5_tried_1 rfl ?_
  refine lv_lconst (v := 0) hx hb dX5_tried_2 (by decide) ?_
  refine kldc2 (v := 4) C wd_2_214 dX5_tried_3 ?_
  refine go_i (ws' := [yc a Y, ac cI (a 20) 5 tr]) C (rn_S (As := [.long (Int32.toInt64 k), .long 0, .long 4]) (rest := []) C (c_X5_in l D cI (Int32.toInt64 k) 0 4 H.size) ck_X5_in wd_2_216 wd_2_215 ⟨Nat.le_of_ble_eq_true rfl, Nat.le_of_ble_eq_true rfl⟩ ⟨Nat.le_refl _, Nat.le_refl _⟩ hP hD hS [] rfl rfl hl rfl (Nat.le_of_ble_eq_true rfl) dX5_tried_6) hP hD hS [] rfl rfl rfl (fun H locs hP hD hS => ?_)
  refine lv_if_ne (tgt := 15) hx hb dX5_tried_9 (by decide) (fun c1 => ?_) (fun c1 => ?_)
  · refine lv_aload_n hx hb dX5_tried_15 rfl (lv_at hl 0 rfl) ?_
    refine kget (v := .int (Y 19)) C hP igX5 rfl 19 (by decide) wd_2_165 0 rfl rfl dX5_tried_16 ?_
    refine lv_if_eq (tgt := 31) hx hb dX5_tried_19 (by decide) (fun c2 => ?_) (fun c2 => ?_)
    · refine lv_bipush (v := (-3)) hx hb dX5_tried_31 (by decide) ?_
      exact hend _ _ _ _ _ (by rw [← hr, r_X5_tried, if_neg c1, if_pos c2]) hP hS dX5_tried_33
    · refine lv_aload_n hx hb dX5_tried_22 rfl (lv_at hl 0 rfl) ?_
      refine kget (v := .ref (a 20)) C hP igX5 rfl 20 (by decide) wd_2_166 0 rfl rfl dX5_tried_23 ?_
      refine lv_iload_n hx hb dX5_tried_26 rfl (lv_at hl 1 rfl) ?_
      refine kald C hP 1 rfl (in_tried c1) (k := (Int32.toNatClampNeg k)) rfl dX5_tried_27 ?_
      refine lv_goto (tgt := 33) hx hb dX5_tried_28 (by decide) ?_
      exact hend _ _ _ _ _ (by rw [← hr, r_X5_tried, if_neg c1, if_neg c2]) hP hS dX5_tried_33
  · refine lv_bipush (v := (-2)) hx hb dX5_tried_12 (by decide) ?_
    exact hend _ _ _ _ _ (by rw [← hr, r_X5_tried, if_pos c1]) hP hS dX5_tried_14
def r_X5_told (Y : Nat → Int32) (ru : Nat → Int32) (k : Int32) : Int32 := (if (r_X5_in (Int32.toInt64 k) 10 20) = 0 then (if k = 0 then (Y 0) else (if k = 1 then (Y 1) else (if k = 2 then (r_X5_vials Y) else (if k = 3 then (if (Y 3) = 0 then 0 else 1) else (-10002))))) else (ru (Int32.toNatClampNeg (k - 10))))
theorem ck_X5_told : CK yX5_told cX5_told 2 (some .int) 1 := ⟨wd_3_115, wd_1_7, by decide, by decide, by decide +kernel⟩
set_option maxHeartbeats 4000000 in
set_option maxRecDepth 100000 in
theorem c_X5_told (l : Launch) (D : va_G) (cI : ClassId) (a : Nat → Nat) (Y : Nat → Int32) (ru : Nat → Int32) (k : Int32) : MI l D cI yX5_told cX5_told 2 (some .int) 1 25 [.ref (a 0), .int k] [yc a Y, ac cI (a 2) 11 ru] (r_X5_told Y ru k) [yc a Y, ac cI (a 2) 11 ru] := by
  generalize hr : (r_X5_told Y ru k) = r
  refine MI.mk (own := RX5) rfl (by decide) rfl (Nat.le_of_ble_eq_true rfl) ?_
  intro p e s m args below meth c A Q C hD hend H locs ls hP hS hl
  have hx := C.1.1
  have hb := C.1.2.1
  have hl : lv_has ls 2 [(0, .ref (a 0)), (1, .int k)] := hl
  refine lv_iload_n hx hb dX5_told_0 rfl (lv_at hl 1 rfl) ?_
  refine lv_i2l (v := (Int32.toInt64 k)) hx hb dX5_told_1 rfl ?_
  refine kldc2 (v := 10) C wd_2_227 dX5_told_2 ?_
  refine kldc2 (v := 20) C wd_3_116 dX5_told_5 ?_
  refine go_i (ws' := [yc a Y, ac cI (a 2) 11 ru]) C (rn_S (As := [.long (Int32.toInt64 k), .long 10, .long 20]) (rest := []) C (c_X5_in l D cI (Int32.toInt64 k) 10 20 H.size) ck_X5_in wd_2_216 wd_2_215 ⟨Nat.le_of_ble_eq_true rfl, Nat.le_of_ble_eq_true rfl⟩ ⟨Nat.le_refl _, Nat.le_refl _⟩ hP hD hS [] rfl rfl hl rfl (Nat.le_of_ble_eq_true rfl) dX5_told_8) hP hD hS [] rfl rfl rfl (fun H locs hP hD hS => ?_)
  refine lv_if_eq (tgt := 24) hx hb dX5_told_11 (by decide) (fun c1 => ?_) (fun c1 => ?_)
  · refine lv_iload_n hx hb dX5_told_24 rfl (lv_at hl 1 rfl) ?_
    by_cases c2 : k = 0
    · refine lv_tableIn (off := 31) (tgt := 56) hx hb dX5_told_25 (by rw [c2]; decide) (by rw [c2]; decide) (by rw [c2]; rfl) (by decide) ?_
      refine lv_aload_n hx hb dX5_told_56 rfl (lv_at hl 0 rfl) ?_
      refine kget (v := .int (Y 0)) C hP igX5 rfl 0 (by decide) wd_2_146 0 rfl rfl dX5_told_57 ?_
      exact hend _ _ _ _ _ (by rw [← hr, r_X5_told, if_pos c1, if_pos c2]) hP hS dX5_told_60
    · skip
      by_cases c3 : k = 1
      · refine lv_tableIn (off := 36) (tgt := 61) hx hb dX5_told_25 (by rw [c3]; decide) (by rw [c3]; decide) (by rw [c3]; rfl) (by decide) ?_
        refine lv_aload_n hx hb dX5_told_61 rfl (lv_at hl 0 rfl) ?_
        refine kget (v := .int (Y 1)) C hP igX5 rfl 1 (by decide) wd_2_147 0 rfl rfl dX5_told_62 ?_
        exact hend _ _ _ _ _ (by rw [← hr, r_X5_told, if_pos c1, if_neg c2, if_pos c3]) hP hS dX5_told_65
      · skip
        by_cases c4 : k = 2
        · refine lv_tableIn (off := 41) (tgt := 66) hx hb dX5_told_25 (by rw [c4]; decide) (by rw [c4]; decide) (by rw [c4]; rfl) (by decide) ?_
          refine lv_aload_n hx hb dX5_told_66 rfl (lv_at hl 0 rfl) ?_
          refine go_i (ws' := [yc a Y, ac cI (a 2) 11 ru]) C (rn_V (As := []) (rest := []) C (c_X5_vials l D cI a Y H.size) ck_X5_vials wd_2_221 wd_0_5 wd_2_219 ⟨Nat.le_of_ble_eq_true rfl, Nat.le_of_ble_eq_true rfl⟩ ⟨Nat.le_refl _, Nat.le_refl _⟩ (ci := 5) (q0 := 0) rfl rfl hP hD hS [0] rfl rfl hl rfl (Nat.le_of_ble_eq_true rfl) dX5_told_67) hP hD hS [0] rfl rfl rfl (fun H locs hP hD hS => ?_)
          exact hend _ _ _ _ _ (by rw [← hr, r_X5_told, if_pos c1, if_neg c2, if_neg c3, if_pos c4]) hP hS dX5_told_70
        · skip
          by_cases c5 : k = 3
          · refine lv_tableIn (off := 46) (tgt := 71) hx hb dX5_told_25 (by rw [c5]; decide) (by rw [c5]; decide) (by rw [c5]; rfl) (by decide) ?_
            refine lv_aload_n hx hb dX5_told_71 rfl (lv_at hl 0 rfl) ?_
            refine kget (v := .int (Y 3)) C hP igX5 rfl 3 (by decide) wd_2_149 0 rfl rfl dX5_told_72 ?_
            refine lv_if_eq (tgt := 82) hx hb dX5_told_75 (by decide) (fun c6 => ?_) (fun c6 => ?_)
            · refine lv_iconst (v := 0) hx hb dX5_told_82 (by decide) ?_
              exact hend _ _ _ _ _ (by rw [← hr, r_X5_told, if_pos c1, if_neg c2, if_neg c3, if_neg c4, if_pos c5, if_pos c6]) hP hS dX5_told_83
            · refine lv_iconst (v := 1) hx hb dX5_told_78 (by decide) ?_
              refine lv_goto (tgt := 83) hx hb dX5_told_79 (by decide) ?_
              exact hend _ _ _ _ _ (by rw [← hr, r_X5_told, if_pos c1, if_neg c2, if_neg c3, if_neg c4, if_pos c5, if_neg c6]) hP hS dX5_told_83
          · skip
            refine lv_tableOut (tgt := 84) hx hb dX5_told_25 (ts_out (fun k h1 h2 => by rcases (by omega : k = 0 ∨ k = 1 ∨ k = 2 ∨ k = 3) with rfl | rfl | rfl | rfl <;> assumption)) (by decide) ?_
            refine lv_sipush (v := (-10002)) hx hb dX5_told_84 (by decide) ?_
            exact hend _ _ _ _ _ (by rw [← hr, r_X5_told, if_pos c1, if_neg c2, if_neg c3, if_neg c4, if_neg c5]) hP hS dX5_told_87
  · refine lv_aload_n hx hb dX5_told_14 rfl (lv_at hl 0 rfl) ?_
    refine kget (v := .ref (a 2)) C hP igX5 rfl 2 (by decide) wd_2_148 0 rfl rfl dX5_told_15 ?_
    refine lv_iload_n hx hb dX5_told_18 rfl (lv_at hl 1 rfl) ?_
    refine lv_bipush (v := 10) hx hb dX5_told_19 (by decide) ?_
    refine lv_isub hx hb dX5_told_21 ?_
    refine kald C hP 1 rfl (in_told c1) (k := (Int32.toNatClampNeg (k - 10))) rfl dX5_told_22 ?_
    exact hend _ _ _ _ _ (by rw [← hr, r_X5_told, if_neg c1]) hP hS dX5_told_23
end
section
/-! the warmth at which steam and heat balance: both searches find the same -/
theorem divI {a b : Int32} (h : -2147483648 < a.toInt) : (a / b).toInt = a.toInt.tdiv b.toInt :=
  Int32.toInt_div_of_ne_left a b (fun z => by rw [z] at h; exact absurd h (by decide))
theorem vap_eq (t : Int32) : r_X5_vapourAt t = r_X4_vapourAt t := by
  unfold r_X5_vapourAt r_X4_vapourAt r_X5_bend
  have e : ∀ d : Int32, d + 1 + 2 = d + 3 := fun d => by rw [Int32.add_assoc]; rfl
  rw [e]
def vI (z : Int) : Int := (r_X4_vapourAt (Int32.ofInt z)).toInt
theorem vap_tab : ∀ k : Nat, k < 600 → vI ((k : Int) - 600) ≤ vI ((k : Int) - 599) := by decide +kernel
theorem vap_tab2 : ∀ k : Nat, k < 601 → 0 ≤ vI ((k : Int) - 600) ∧ vI ((k : Int) - 600) ≤ 11916 := by decide +kernel
theorem vap_bd {z : Int} (h1 : -600 ≤ z) (h2 : z ≤ 0) : 0 ≤ vI z ∧ vI z ≤ 11916 := by
  have := vap_tab2 (z + 600).toNat (by omega)
  rwa [show (((z + 600).toNat : Nat) : Int) - 600 = z by omega] at this
theorem vap_mono : ∀ (d : Nat) {z : Int}, -600 ≤ z → z + d ≤ 0 → vI z ≤ vI (z + d)
  | 0, z, _, _ => by simp
  | d + 1, z, h1, h2 => by
    have h3 := vap_mono d (z := z) h1 (by omega)
    have h4 := vap_tab (z + d + 600).toNat (by omega)
    rw [show (((z + d + 600).toNat : Nat) : Int) - 600 = z + d by omega, show (((z + d + 600).toNat : Nat) : Int) - 599 = z + ((d + 1 : Nat) : Int) by omega] at h4
    omega
theorem vI_of (t : Int32) : (r_X4_vapourAt t).toInt = vI t.toInt := by
  unfold vI
  rw [Int32.ofInt_toInt]
/-- steam as a number -/
def sI (z p b : Int) : Int := ((if 0 < vI z - p then vI z - p else 0) * 10).tdiv b
theorem steam_val {t b p : Int32} (ht : -600 ≤ t.toInt ∧ t.toInt ≤ 0) (hp : 0 ≤ p.toInt ∧ p.toInt ≤ 20000) (hb : 10 ≤ b.toInt ∧ b.toInt ≤ 6000) : (r_X4_steamAt t b p).toInt = sI t.toInt p.toInt b.toInt := by
  have hv := vap_bd ht.1 ht.2
  have e0 : (0 : Int32).toInt = 0 := rfl
  have e10 : (10 : Int32).toInt = 10 := rfl
  have es : (r_X4_vapourAt t - p).toInt = vI t.toInt - p.toInt := by rw [subI (by rw [vI_of]; omega) (by rw [vI_of]; omega), vI_of]
  unfold r_X4_steamAt r_X4_quotient sI
  rw [if_neg (fun z => by rw [z] at hb; omega)]
  by_cases h : 0 < r_X4_vapourAt t - p
  · have h' := (tI_lt _ _).mp h
    rw [if_pos h, if_pos (by omega)]
    have em : ((r_X4_vapourAt t - p) * 10).toInt = (vI t.toInt - p.toInt) * 10 := by rw [mulI (by rw [e10]; omega) (by rw [e10]; omega), es, e10]
    rw [divI (by omega), em]
  · have h' : ¬ 0 < vI t.toInt - p.toInt := fun z => h ((tI_lt _ _).mpr (by omega))
    rw [if_neg h, if_neg h']
    rw [divI (by decide)]
    rfl
theorem sI_bd {z p b : Int} (hz : -600 ≤ z ∧ z ≤ 0) (hp : 0 ≤ p) (hb : 10 ≤ b) : 0 ≤ sI z p b ∧ sI z p b ≤ 11916 := by
  have hv := vap_bd hz.1 hz.2
  unfold sI
  have h0 : 0 ≤ (if 0 < vI z - p then vI z - p else 0) * 10 ∧ (if 0 < vI z - p then vI z - p else 0) * 10 ≤ 119160 := by
    split <;> omega
  rw [Int.tdiv_eq_ediv_of_nonneg h0.1]
  refine ⟨Int.ediv_nonneg h0.1 (by omega), ?_⟩
  have h1 : ((if 0 < vI z - p then vI z - p else 0) * 10) / b ≤ (119160 : Int) / b := Int.ediv_le_ediv (by omega) h0.2
  have h2 : (119160 : Int) / b ≤ 11916 := by
    apply Int.ediv_le_of_le_mul (by omega)
    omega
  omega
theorem sI_mono {z z2 p b : Int} (h1 : -600 ≤ z) (h2 : z ≤ z2) (h3 : z2 ≤ 0) (hb : 10 ≤ b) : sI z p b ≤ sI z2 p b := by
  have hv := vap_mono (z2 - z).toNat (z := z) h1 (by omega)
  rw [show z + ((z2 - z).toNat : Int) = z2 by omega] at hv
  unfold sI
  apply Int.tdiv_le_tdiv (by omega)
  split <;> split <;> omega
/-- more steam than the heat bears -/
def FF (heat sh b p co t : Int32) : Prop := ((heat * (sh - t)) / 10) < ((r_X4_steamAt t b p) * co)
def FB (heat sh b p co : Int32) : Prop := (1 ≤ heat.toInt ∧ heat.toInt ≤ 100) ∧ (-600 ≤ sh.toInt ∧ sh.toInt ≤ 400) ∧ (10 ≤ b.toInt ∧ b.toInt ≤ 6000) ∧ (0 ≤ p.toInt ∧ p.toInt ≤ 20000) ∧ (1 ≤ co.toInt ∧ co.toInt ≤ 50)
theorem FF_val {heat sh b p co t : Int32} (h : FB heat sh b p co) (ht : -600 ≤ t.toInt ∧ t.toInt ≤ 0) : FF heat sh b p co t ↔ (heat.toInt * (sh.toInt - t.toInt)).tdiv 10 < sI t.toInt p.toInt b.toInt * co.toInt := by
  obtain ⟨hh, hs, hb, hp, hc⟩ := h
  have e10 : (10 : Int32).toInt = 10 := rfl
  have e1 : (sh - t).toInt = sh.toInt - t.toInt := subI (by omega) (by omega)
  have hm : -100000 ≤ heat.toInt * (sh.toInt - t.toInt) ∧ heat.toInt * (sh.toInt - t.toInt) ≤ 100000 := by
    rcases Int.le_total 0 (sh.toInt - t.toInt) with z | z
    · have := mul_bd (x := heat.toInt) (y := sh.toInt - t.toInt) (a := 100) (b := 1000) (by omega) (by omega) z (by omega)
      omega
    · have := mul_bd (x := heat.toInt) (y := -(sh.toInt - t.toInt)) (a := 100) (b := 1000) (by omega) (by omega) (by omega) (by omega)
      rw [Int.mul_neg] at this
      omega
  have e2 : (heat * (sh - t)).toInt = heat.toInt * (sh.toInt - t.toInt) := by rw [mulI (by rw [e1]; omega) (by rw [e1]; omega), e1]
  have e3 : ((heat * (sh - t)) / 10).toInt = (heat.toInt * (sh.toInt - t.toInt)).tdiv 10 := by rw [divI (by omega), e2, e10]
  have sv := steam_val ht hp hb
  have sb := sI_bd ht hp.1 hb.1
  have sm := mul_bd (x := sI t.toInt p.toInt b.toInt) (y := co.toInt) (a := 11916) (b := 50) sb.1 sb.2 (by omega) hc.2
  have e4 : ((r_X4_steamAt t b p) * co).toInt = sI t.toInt p.toInt b.toInt * co.toInt := by rw [mulI (by rw [sv]; omega) (by rw [sv]; omega), sv]
  unfold FF
  rw [tI_lt, e3, e4]
theorem FF_mono {heat sh b p co t u : Int32} (h : FB heat sh b p co) (ht : -600 ≤ t.toInt) (htu : t.toInt ≤ u.toInt) (hu : u.toInt ≤ 0) (hF : FF heat sh b p co t) : FF heat sh b p co u := by
  have h1 := (FF_val h ⟨ht, by omega⟩).mp hF
  refine (FF_val h ⟨by omega, hu⟩).mpr ?_
  obtain ⟨hh, hs, hb, hp, hc⟩ := h
  have a1 : (heat.toInt * (sh.toInt - u.toInt)).tdiv 10 ≤ (heat.toInt * (sh.toInt - t.toInt)).tdiv 10 := Int.tdiv_le_tdiv (by omega) (Int.mul_le_mul_of_nonneg_left (by omega) (by omega))
  have a2 : sI t.toInt p.toInt b.toInt * co.toInt ≤ sI u.toInt p.toInt b.toInt * co.toInt := Int.mul_le_mul_of_nonneg_right (sI_mono ht htu hu hb.1) (by omega)
  omega
/-- t is the answer: nothing fails at it, and it fails d above it -/
def BI (F : Int32 → Prop) (d : Int) (t : Int32) : Prop := (-600 ≤ t.toInt ∧ t.toInt ≤ 0) ∧ (t.toInt = -600 ∨ ¬ F t) ∧ (0 < t.toInt + d ∨ ∀ u : Int32, u.toInt = t.toInt + d → F u)
theorem BI_one {F : Int32 → Prop} (hF : ∀ t u : Int32, -600 ≤ t.toInt → t.toInt ≤ u.toInt → u.toInt ≤ 0 → F t → F u) {t u : Int32} (ht : BI F 1 t) (hu : BI F 1 u) : t = u := by
  have key : ∀ {t u : Int32}, BI F 1 t → BI F 1 u → ¬ t.toInt < u.toInt := by
    intro t u ht hu hlt
    obtain ⟨b1, -, c1⟩ := ht
    obtain ⟨b2, a2, -⟩ := hu
    rcases a2 with a2 | a2
    · omega
    · rcases c1 with c1 | c1
      · omega
      · have e : (t + 1).toInt = t.toInt + 1 := addI (by have e1 : (1 : Int32).toInt = 1 := rfl; omega) (by have e1 : (1 : Int32).toInt = 1 := rfl; omega)
        exact a2 (hF (t + 1) u (by omega) (by omega) b2.2 (c1 _ e))
  have h1 := key ht hu
  have h2 := key hu ht
  exact (tI_eq t u).mpr (by omega)
theorem bal_step {G : Nat → Int32} {sh bs p0 co t st : Int32} {S : Int} (hs : st.toInt = S) (h1 : 1 ≤ S) (h2 : S ≤ 512) (h : BI (FF (G 5) sh bs p0 co) (2 * S) t) : BI (FF (G 5) sh bs p0 co) S (mg_X0_balance_24 G sh bs p0 co t st) := by
  obtain ⟨hb, ha, hc⟩ := h
  have e : (t + st).toInt = t.toInt + S := by rw [addI (by omega) (by omega), hs]
  have e0 : (0 : Int32).toInt = 0 := rfl
  unfold mg_X0_balance_24
  by_cases c1 : 0 < t + st
  · rw [if_pos c1]
    have := (tI_lt _ _).mp c1
    exact ⟨hb, ha, Or.inl (by omega)⟩
  · rw [if_neg c1]
    have c1' : ¬ 0 < t.toInt + S := fun z => c1 ((tI_lt _ _).mpr (by omega))
    by_cases c2 : (((G 5) * (sh - (t + st))) / 10) < ((r_X4_steamAt (t + st) bs p0) * co)
    · rw [if_pos c2]
      refine ⟨hb, ha, Or.inr (fun u hu => ?_)⟩
      have : u = t + st := (tI_eq _ _).mpr (by omega)
      rw [this]; exact c2
    · rw [if_neg c2]
      refine ⟨by omega, Or.inr c2, ?_⟩
      rcases hc with hc | hc
      · left; omega
      · right; intro u hu; exact hc u (by omega)
theorem bal_go {G : Nat → Int32} {sh bs p0 co t st : Int32} {n : Nat} (c : ¬ st ≤ 0) : lr_X0_balance_10 G sh bs p0 co (n + 1) t st = lr_X0_balance_10 G sh bs p0 co n (mg_X0_balance_24 G sh bs p0 co t st) (st / 2) := by
  rw [lr_X0_balance_10, if_neg c]
theorem bal_end {G : Nat → Int32} {sh bs p0 co t : Int32} {n : Nat} : lr_X0_balance_10 G sh bs p0 co (n + 1) t 0 = t := by
  rw [lr_X0_balance_10, if_pos (by decide)]
theorem bal_is (G : Nat → Int32) (sh bs p0 co : Int32) : BI (FF (G 5) sh bs p0 co) 1 (r_X0_balance G sh bs p0 co) := by
  unfold r_X0_balance
  rw [fu_eq, show (513 : Nat) = 502 + 11 from rfl]
  have h0 : BI (FF (G 5) sh bs p0 co) (2 * 512) (-600) := ⟨by decide, Or.inl (by decide), Or.inl (by decide)⟩
  have h1 := bal_step (st := 512) (S := 512) rfl (by decide) (by decide) h0
  have h2 := bal_step (st := 256) (S := 256) rfl (by decide) (by decide) h1
  have h3 := bal_step (st := 128) (S := 128) rfl (by decide) (by decide) h2
  have h4 := bal_step (st := 64) (S := 64) rfl (by decide) (by decide) h3
  have h5 := bal_step (st := 32) (S := 32) rfl (by decide) (by decide) h4
  have h6 := bal_step (st := 16) (S := 16) rfl (by decide) (by decide) h5
  have h7 := bal_step (st := 8) (S := 8) rfl (by decide) (by decide) h6
  have h8 := bal_step (st := 4) (S := 4) rfl (by decide) (by decide) h7
  have h9 := bal_step (st := 2) (S := 2) rfl (by decide) (by decide) h8
  have hA := bal_step (st := 1) (S := 1) rfl (by decide) (by decide) h9
  rw [bal_go (by decide), show (512 : Int32) / 2 = 256 from by decide, bal_go (by decide), show (256 : Int32) / 2 = 128 from by decide, bal_go (by decide), show (128 : Int32) / 2 = 64 from by decide, bal_go (by decide), show (64 : Int32) / 2 = 32 from by decide, bal_go (by decide), show (32 : Int32) / 2 = 16 from by decide, bal_go (by decide), show (16 : Int32) / 2 = 8 from by decide, bal_go (by decide), show (8 : Int32) / 2 = 4 from by decide, bal_go (by decide), show (4 : Int32) / 2 = 2 from by decide, bal_go (by decide), show (2 : Int32) / 2 = 1 from by decide, bal_go (by decide), show (1 : Int32) / 2 = 0 from by decide, bal_end]
  exact hA
/-- the reference's search -/
theorem war_is {Y ru ic pr : Nat → Int32} {w k sh : Int32} (F : Int32 → Prop) (hF : ∀ t : Int32, -600 ≤ t.toInt → t.toInt ≤ 0 → (r_X5_holds Y ru ic pr w k t sh = 0 ↔ F t)) : ∀ (n : Nat) (lo hi : Int32), (-600 ≤ lo.toInt ∧ lo.toInt ≤ hi.toInt ∧ hi.toInt ≤ 0) → (hi.toInt - lo.toInt).toNat < n → (lo.toInt = -600 ∨ ¬ F lo) → (hi.toInt = 0 ∨ ∀ u : Int32, u.toInt = hi.toInt + 1 → F u) → BI F 1 (lr_X5_warmthOf_8 Y ru ic pr w k sh n lo hi) := by
  intro n
  induction n with
  | zero => intro lo hi _ h; exact absurd h (Nat.not_lt_zero _)
  | succ n ih =>
    intro lo hi hb hm h1 h2
    rw [lr_X5_warmthOf_8]
    by_cases c1 : hi ≤ lo
    · rw [if_pos c1]
      have c1' := (tI_le _ _).mp c1
      refine ⟨by omega, h1, ?_⟩
      rcases h2 with h2 | h2
      · left; omega
      · right; intro u hu; exact h2 u (by omega)
    · rw [if_neg c1]
      have c1' : ¬ hi.toInt ≤ lo.toInt := fun z => c1 ((tI_le _ _).mpr z)
      have em := mid_in hb c1
      have eh := mid_hi_eq hb c1
      by_cases c2 : r_X5_holds Y ru ic pr w k (lo + (((hi - lo) + 1) / 2)) sh = 0
      · rw [if_pos c2]
        refine ih _ _ (mid_hi_in hb c1) (mid_hi hb c1 hm) h1 (Or.inr (fun u hu => ?_))
        have : u = lo + (((hi - lo) + 1) / 2) := (tI_eq _ _).mpr (by omega)
        rw [this]
        exact (hF _ (by omega) (by omega)).mp c2
      · rw [if_neg c2]
        exact ih _ _ (mid_lo_in hb c1) (mid_lo hb c1 hm) (Or.inr (fun z => c2 ((hF _ (by omega) (by omega)).mpr z))) h2
end
