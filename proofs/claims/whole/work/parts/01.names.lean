-- ===== PART A: goes FIRST, ahead of the names: the tables' words, and 'selects' of the private methods out of them =====
/-- a private method of a class that the tables say can be made, by its rows of tables_1 -/
def lw_okq (q : MethodName × Nat) : Prop := (q.1.cls ≠ "java/lang/invoke/MethodHandle" ∧ q.1.cls ≠ "java/lang/invoke/VarHandle") ∧ Cond.instantiable q.1.cls q.2 ∈ tables_1 ∧ Cond.privateMethod q.1 ∈ tables_1 ∧ Cond.instanceMethod q.1 ∈ tables_1
theorem lw_p0 : lw_okq (⟨"ColdDryer", "places", "()I"⟩, 10) := ⟨⟨by decide +kernel, by decide +kernel⟩, List.mem_of_getElem? (i := 10) (by decide +kernel), List.mem_of_getElem? (i := 159) (by decide +kernel), List.mem_of_getElem? (i := 160) (by decide +kernel)⟩
theorem lw_p1 : lw_okq (⟨"ColdDryer", "isAtRim", "(I)Z"⟩, 10) := ⟨⟨by decide +kernel, by decide +kernel⟩, List.mem_of_getElem? (i := 10) (by decide +kernel), List.mem_of_getElem? (i := 216) (by decide +kernel), List.mem_of_getElem? (i := 217) (by decide +kernel)⟩
theorem lw_p2 : lw_okq (⟨"ColdDryer$Group", "balance", "(IIII)I"⟩, 8) := ⟨⟨by decide +kernel, by decide +kernel⟩, List.mem_of_getElem? (i := 40) (by decide +kernel), List.mem_of_getElem? (i := 274) (by decide +kernel), List.mem_of_getElem? (i := 275) (by decide +kernel)⟩
theorem lw_p3 : lw_okq (⟨"ColdDryer$Load", "pressureBehind", "(LColdDryer$Rules;)I"⟩, 7) := ⟨⟨by decide +kernel, by decide +kernel⟩, List.mem_of_getElem? (i := 34) (by decide +kernel), List.mem_of_getElem? (i := 282) (by decide +kernel), List.mem_of_getElem? (i := 283) (by decide +kernel)⟩
theorem lw_p4 : lw_okq (⟨"ColdDryer", "noneFalls", "(III)Z"⟩, 10) := ⟨⟨by decide +kernel, by decide +kernel⟩, List.mem_of_getElem? (i := 10) (by decide +kernel), List.mem_of_getElem? (i := 362) (by decide +kernel), List.mem_of_getElem? (i := 363) (by decide +kernel)⟩
theorem lw_p5 : lw_okq (⟨"ColdDryerModel", "vials", "()I"⟩, 21) := ⟨⟨by decide +kernel, by decide +kernel⟩, List.mem_of_getElem? (i := 381) (by decide +kernel), List.mem_of_getElem? (i := 460) (by decide +kernel), List.mem_of_getElem? (i := 461) (by decide +kernel)⟩
theorem lw_p6 : lw_okq (⟨"ColdDryerModel", "steamAt", "(III)I"⟩, 21) := ⟨⟨by decide +kernel, by decide +kernel⟩, List.mem_of_getElem? (i := 381) (by decide +kernel), List.mem_of_getElem? (i := 492) (by decide +kernel), List.mem_of_getElem? (i := 493) (by decide +kernel)⟩
theorem lw_p7 : lw_okq (⟨"ColdDryerModel", "isRim", "(I)Z"⟩, 21) := ⟨⟨by decide +kernel, by decide +kernel⟩, List.mem_of_getElem? (i := 381) (by decide +kernel), List.mem_of_getElem? (i := 500) (by decide +kernel), List.mem_of_getElem? (i := 501) (by decide +kernel)⟩
theorem lw_p8 : lw_okq (⟨"ColdDryerModel", "fill", "(II)V"⟩, 21) := ⟨⟨by decide +kernel, by decide +kernel⟩, List.mem_of_getElem? (i := 381) (by decide +kernel), List.mem_of_getElem? (i := 508) (by decide +kernel), List.mem_of_getElem? (i := 509) (by decide +kernel)⟩
theorem lw_p9 : lw_okq (⟨"ColdDryerModel", "goOn", "(III)V"⟩, 21) := ⟨⟨by decide +kernel, by decide +kernel⟩, List.mem_of_getElem? (i := 381) (by decide +kernel), List.mem_of_getElem? (i := 527) (by decide +kernel), List.mem_of_getElem? (i := 528) (by decide +kernel)⟩
theorem lw_p10 : lw_okq (⟨"ColdDryerModel", "warmthOf", "(III)I"⟩, 21) := ⟨⟨by decide +kernel, by decide +kernel⟩, List.mem_of_getElem? (i := 381) (by decide +kernel), List.mem_of_getElem? (i := 531) (by decide +kernel), List.mem_of_getElem? (i := 532) (by decide +kernel)⟩
theorem lw_p11 : lw_okq (⟨"ColdDryerModel", "holds", "(IIII)Z"⟩, 21) := ⟨⟨by decide +kernel, by decide +kernel⟩, List.mem_of_getElem? (i := 381) (by decide +kernel), List.mem_of_getElem? (i := 535) (by decide +kernel), List.mem_of_getElem? (i := 536) (by decide +kernel)⟩
theorem lw_p12 : lw_okq (⟨"ColdDryerModel", "wetOf", "(I)I"⟩, 21) := ⟨⟨by decide +kernel, by decide +kernel⟩, List.mem_of_getElem? (i := 381) (by decide +kernel), List.mem_of_getElem? (i := 539) (by decide +kernel), List.mem_of_getElem? (i := 540) (by decide +kernel)⟩
theorem lw_p13 : lw_okq (⟨"ColdDryerModel", "firstOf", "(I)I"⟩, 21) := ⟨⟨by decide +kernel, by decide +kernel⟩, List.mem_of_getElem? (i := 381) (by decide +kernel), List.mem_of_getElem? (i := 573) (by decide +kernel), List.mem_of_getElem? (i := 574) (by decide +kernel)⟩
theorem lw_p14 : lw_okq (⟨"ColdDryerModel", "tries", "(III)I"⟩, 21) := ⟨⟨by decide +kernel, by decide +kernel⟩, List.mem_of_getElem? (i := 381) (by decide +kernel), List.mem_of_getElem? (i := 581) (by decide +kernel), List.mem_of_getElem? (i := 582) (by decide +kernel)⟩
def lw_privs_1 : List (MethodName × Nat) := [(⟨"ColdDryer", "places", "()I"⟩, 10), (⟨"ColdDryer", "isAtRim", "(I)Z"⟩, 10), (⟨"ColdDryer$Group", "balance", "(IIII)I"⟩, 8), (⟨"ColdDryer$Load", "pressureBehind", "(LColdDryer$Rules;)I"⟩, 7), (⟨"ColdDryer", "noneFalls", "(III)Z"⟩, 10), (⟨"ColdDryerModel", "vials", "()I"⟩, 21), (⟨"ColdDryerModel", "steamAt", "(III)I"⟩, 21), (⟨"ColdDryerModel", "isRim", "(I)Z"⟩, 21), (⟨"ColdDryerModel", "fill", "(II)V"⟩, 21), (⟨"ColdDryerModel", "goOn", "(III)V"⟩, 21), (⟨"ColdDryerModel", "warmthOf", "(III)I"⟩, 21), (⟨"ColdDryerModel", "holds", "(IIII)Z"⟩, 21), (⟨"ColdDryerModel", "wetOf", "(I)I"⟩, 21), (⟨"ColdDryerModel", "firstOf", "(I)I"⟩, 21), (⟨"ColdDryerModel", "tries", "(III)I"⟩, 21)]
theorem lw_r1 : ∀ q ∈ lw_privs_1, lw_okq q := List.forall_mem_cons.mpr ⟨lw_p0, List.forall_mem_cons.mpr ⟨lw_p1, List.forall_mem_cons.mpr ⟨lw_p2, List.forall_mem_cons.mpr ⟨lw_p3, List.forall_mem_cons.mpr ⟨lw_p4, List.forall_mem_cons.mpr ⟨lw_p5, List.forall_mem_cons.mpr ⟨lw_p6, List.forall_mem_cons.mpr ⟨lw_p7, List.forall_mem_cons.mpr ⟨lw_p8, List.forall_mem_cons.mpr ⟨lw_p9, List.forall_mem_cons.mpr ⟨lw_p10, List.forall_mem_cons.mpr ⟨lw_p11, List.forall_mem_cons.mpr ⟨lw_p12, List.forall_mem_cons.mpr ⟨lw_p13, List.forall_mem_cons.mpr ⟨lw_p14, fun _ h => absurd h List.not_mem_nil⟩⟩⟩⟩⟩⟩⟩⟩⟩⟩⟩⟩⟩⟩⟩
def lw_privs : List (MethodName × Nat) := lw_privs_1
def lw_tbl : List Cond := k2_sels lw_privs ++ tables_1
theorem lw_privs_ok : ∀ q ∈ lw_privs, lw_okq q := lw_r1
/-! ===== BEGIN words of one list among another's, by their places ===== -/
theorem goodIn_r {big : List Cond} (ws : List Cond) (ps : List Nat) (hp : ws = ps.filterMap (fun i => big[i]?)) (h : ws.all goodWord = true) : GoodIn big ws := by
  intro w hw
  have h1 := List.all_eq_true.mp h w hw
  rw [hp] at hw
  obtain ⟨i, -, hi⟩ := List.mem_filterMap.mp hw
  have hm : w ∈ big := by first | exact List.mem_of_getElem? hi | exact List.getElem?_mem hi
  exact ⟨hm, good_of_word h1⟩
theorem goodIn_app {big a b : List Cond} (ha : GoodIn big a) (hb : GoodIn big b) : GoodIn big (a ++ b) := fun w h => (List.mem_append.mp h).elim (ha w) (hb w)
theorem goodIn_ca {big a b : List Cond} {c : Cond} (ha : GoodIn big (c :: a)) (hb : GoodIn big b) : GoodIn big (c :: (a ++ b)) := fun w h => (List.mem_cons.mp h).elim (fun e => ha w (List.mem_cons.mpr (Or.inl e))) (fun h => (List.mem_append.mp h).elim (fun h => ha w (List.mem_cons.mpr (Or.inr h))) (hb w))
theorem goodIn_sub {big ws : List Cond} (hm : ∀ w ∈ ws, w ∈ big) (h : ws.all goodWord = true) : GoodIn big ws := fun w hw => ⟨hm w hw, good_of_word (List.all_eq_true.mp h w hw)⟩
/-! ===== END ===== -/

/-! ===== BEGIN printed: names, fields, word lists, decode rows ===== -/
def RX0 : String := "ColdDryer$Group"
def TX0 : u_T := fun k => match k with
  | 0 => ("ColdDryer$Group", "vials", "I", false)
  | 1 => ("ColdDryer$Group", "firstNumber", "I", false)
  | 2 => ("ColdDryer$Group", "ice", "I", false)
  | 3 => ("ColdDryer$Group", "gave", "I", false)
  | 4 => ("ColdDryer$Group", "fellIn", "I", false)
  | 5 => ("ColdDryer$Group", "heat", "I", false)
  | 6 => ("ColdDryer$Group", "warmth", "I", false)
  | _ => ("ColdDryer$Group", "driedOut", "I", false)
def tyX0 : Nat → FieldType := fun k => match k with
  | 0 => .int
  | 1 => .int
  | 2 => .int
  | 3 => .int
  | 4 => .int
  | 5 => .int
  | 6 => .int
  | _ => .int
abbrev wsX00 : List Cond := u_ws RX0 TX0 8
theorem nmX0 : ∀ a, a < 8 → ∀ b, b < 8 → a ≠ b → (TX0 a).2.1 ≠ (TX0 b).2.1 := by decide +kernel
theorem tyX0_ok : ∀ k, k < 8 → parseFieldDescriptor (TX0 k).2.2.1 = some (tyX0 k) := by decide +kernel
abbrev cX0_init : ByteArray := prog_2_method_1_code
def yX0_init : MethodName := ⟨RX0, "<init>", "()V"⟩
abbrev cX0_fill : ByteArray := prog_2_method_2_code
def yX0_fill : MethodName := ⟨RX0, "fill", "(IIII)V"⟩
abbrev cX0_passMinute : ByteArray := prog_2_method_3_code
def yX0_passMinute : MethodName := ⟨RX0, "passMinute", "(LColdDryer$Rules;III)V"⟩
abbrev cX0_balance : ByteArray := prog_2_method_4_code
def yX0_balance : MethodName := ⟨RX0, "balance", "(IIII)I"⟩
abbrev cX0_tell : ByteArray := prog_2_method_5_code
def yX0_tell : MethodName := ⟨RX0, "tell", "(I)I"⟩
def RX1 : String := "ColdDryer$History"
def TX1 : u_T := fun k => match k with
  | 0 => ("ColdDryer$History", "one", "[I", true)
  | 1 => ("ColdDryer$History", "other", "[I", true)
  | _ => ("ColdDryer$History", "withIce", "[I", true)
def tyX1 : Nat → FieldType := fun k => match k with
  | 0 => .array .int
  | 1 => .array .int
  | _ => .array .int
abbrev wsX10 : List Cond := u_ws RX1 TX1 3
theorem nmX1 : ∀ a, a < 3 → ∀ b, b < 3 → a ≠ b → (TX1 a).2.1 ≠ (TX1 b).2.1 := by decide +kernel
theorem tyX1_ok : ∀ k, k < 3 → parseFieldDescriptor (TX1 k).2.2.1 = some (tyX1 k) := by decide +kernel
abbrev cX1_init : ByteArray := prog_3_method_1_code
def yX1_init : MethodName := ⟨RX1, "<init>", "()V"⟩
abbrev cX1_note : ByteArray := prog_3_method_2_code
def yX1_note : MethodName := ⟨RX1, "note", "(LColdDryer$Load;LColdDryer$Rules;)V"⟩
abbrev cX1_oneAt : ByteArray := prog_3_method_3_code
def yX1_oneAt : MethodName := ⟨RX1, "oneAt", "(I)I"⟩
abbrev cX1_otherAt : ByteArray := prog_3_method_4_code
def yX1_otherAt : MethodName := ⟨RX1, "otherAt", "(I)I"⟩
abbrev cX1_withIceAt : ByteArray := prog_3_method_5_code
def yX1_withIceAt : MethodName := ⟨RX1, "withIceAt", "(I)I"⟩
abbrev cX1_findEnd : ByteArray := prog_3_method_6_code
def yX1_findEnd : MethodName := ⟨RX1, "findEnd", "(III)I"⟩
abbrev cX1_holds : ByteArray := prog_3_method_7_code
def yX1_holds : MethodName := ⟨RX1, "holds", "(I)Z"⟩
def RX2 : String := "ColdDryer$Load"
def TX2 : u_T := fun k => match k with
  | 0 => ("ColdDryer$Load", "rimVials", "LColdDryer$Group;", true)
  | 1 => ("ColdDryer$Load", "innerVials", "LColdDryer$Group;", true)
  | 2 => ("ColdDryer$Load", "minute", "I", false)
  | 3 => ("ColdDryer$Load", "pressure", "I", false)
  | 4 => ("ColdDryer$Load", "greatestPressure", "I", false)
  | 5 => ("ColdDryer$Load", "allGave", "I", false)
  | _ => ("ColdDryer$Load", "gaveSoFar", "I", false)
def tyX2 : Nat → FieldType := fun k => match k with
  | 0 => .object "ColdDryer$Group"
  | 1 => .object "ColdDryer$Group"
  | 2 => .int
  | 3 => .int
  | 4 => .int
  | 5 => .int
  | _ => .int
abbrev wsX20 : List Cond := u_ws RX2 TX2 7
theorem nmX2 : ∀ a, a < 7 → ∀ b, b < 7 → a ≠ b → (TX2 a).2.1 ≠ (TX2 b).2.1 := by decide +kernel
theorem tyX2_ok : ∀ k, k < 7 → parseFieldDescriptor (TX2 k).2.2.1 = some (tyX2 k) := by decide +kernel
abbrev cX2_init : ByteArray := prog_4_method_1_code
def yX2_init : MethodName := ⟨RX2, "<init>", "()V"⟩
abbrev cX2_start : ByteArray := prog_4_method_2_code
def yX2_start : MethodName := ⟨RX2, "start", "(LColdDryer$Rules;III)V"⟩
abbrev cX2_passMinute : ByteArray := prog_4_method_3_code
def yX2_passMinute : MethodName := ⟨RX2, "passMinute", "(LColdDryer$Rules;II)V"⟩
abbrev cX2_pressureBehind : ByteArray := prog_4_method_4_code
def yX2_pressureBehind : MethodName := ⟨RX2, "pressureBehind", "(LColdDryer$Rules;)I"⟩
abbrev cX2_otherGauge : ByteArray := prog_4_method_5_code
def yX2_otherGauge : MethodName := ⟨RX2, "otherGauge", "(LColdDryer$Rules;)I"⟩
abbrev cX2_vialsWithIce : ByteArray := prog_4_method_6_code
def yX2_vialsWithIce : MethodName := ⟨RX2, "vialsWithIce", "()I"⟩
abbrev cX2_fallenVials : ByteArray := prog_4_method_7_code
def yX2_fallenVials : MethodName := ⟨RX2, "fallenVials", "()I"⟩
abbrev cX2_firstToFall : ByteArray := prog_4_method_8_code
def yX2_firstToFall : MethodName := ⟨RX2, "firstToFall", "()LColdDryer$Group;"⟩
abbrev cX2_firstVialToFall : ByteArray := prog_4_method_9_code
def yX2_firstVialToFall : MethodName := ⟨RX2, "firstVialToFall", "()I"⟩
abbrev cX2_tell : ByteArray := prog_4_method_10_code
def yX2_tell : MethodName := ⟨RX2, "tell", "(I)I"⟩
def RX3 : String := "ColdDryer$Rules"
def TX3 : u_T := fun k => match k with
  | _ => ("ColdDryer$Rules", "values", "[I", true)
def tyX3 : Nat → FieldType := fun k => match k with
  | _ => .array .int
abbrev wsX30 : List Cond := u_ws RX3 TX3 1
theorem nmX3 : ∀ a, a < 1 → ∀ b, b < 1 → a ≠ b → (TX3 a).2.1 ≠ (TX3 b).2.1 := by decide +kernel
theorem tyX3_ok : ∀ k, k < 1 → parseFieldDescriptor (TX3 k).2.2.1 = some (tyX3 k) := by decide +kernel
abbrev cX3_init : ByteArray := prog_5_method_1_code
def yX3_init : MethodName := ⟨RX3, "<init>", "()V"⟩
abbrev cX3_has : ByteArray := prog_5_method_2_code
def yX3_has : MethodName := ⟨RX3, "has", "(I)Z"⟩
abbrev cX3_allows : ByteArray := prog_5_method_3_code
def yX3_allows : MethodName := ⟨RX3, "allows", "(II)Z"⟩
abbrev cX3_valueOf : ByteArray := prog_5_method_4_code
def yX3_valueOf : MethodName := ⟨RX3, "valueOf", "(I)I"⟩
abbrev cX3_change : ByteArray := prog_5_method_5_code
def yX3_change : MethodName := ⟨RX3, "change", "(II)I"⟩
abbrev cX3_bars : ByteArray := prog_5_method_6_code
def yX3_bars : MethodName := ⟨RX3, "bars", "(I)I"⟩
def RX4 : String := "ColdDryer"
def TX4 : u_T := fun k => match k with
  | 0 => ("ColdDryer", "rules", "LColdDryer$Rules;", true)
  | 1 => ("ColdDryer", "current", "LColdDryer$Load;", true)
  | 2 => ("ColdDryer", "latestTrial", "LColdDryer$Load;", true)
  | 3 => ("ColdDryer", "history", "LColdDryer$History;", true)
  | 4 => ("ColdDryer", "rows", "I", false)
  | 5 => ("ColdDryer", "columns", "I", false)
  | 6 => ("ColdDryer", "shelfWarmth", "I", false)
  | 7 => ("ColdDryer", "setPressure", "I", false)
  | 8 => ("ColdDryer", "loaded", "Z", false)
  | _ => ("ColdDryer", "trialDone", "Z", false)
def tyX4 : Nat → FieldType := fun k => match k with
  | 0 => .object "ColdDryer$Rules"
  | 1 => .object "ColdDryer$Load"
  | 2 => .object "ColdDryer$Load"
  | 3 => .object "ColdDryer$History"
  | 4 => .int
  | 5 => .int
  | 6 => .int
  | 7 => .int
  | 8 => .boolean
  | _ => .boolean
abbrev wsX40 : List Cond := u_ws RX4 TX4 10
theorem nmX4 : ∀ a, a < 10 → ∀ b, b < 10 → a ≠ b → (TX4 a).2.1 ≠ (TX4 b).2.1 := by decide +kernel
theorem tyX4_ok : ∀ k, k < 10 → parseFieldDescriptor (TX4 k).2.2.1 = some (tyX4 k) := by decide +kernel
abbrev cX4_init : ByteArray := prog_1_method_1_code
def yX4_init : MethodName := ⟨RX4, "<init>", "()V"⟩
abbrev cX4_shelf : ByteArray := prog_1_method_2_code
def yX4_shelf : MethodName := ⟨RX4, "shelf", "(II)I"⟩
abbrev cX4_rule : ByteArray := prog_1_method_3_code
def yX4_rule : MethodName := ⟨RX4, "rule", "(II)I"⟩
abbrev cX4_vapour : ByteArray := prog_1_method_4_code
def yX4_vapour : MethodName := ⟨RX4, "vapour", "(I)I"⟩
abbrev cX4_steam : ByteArray := prog_1_method_5_code
def yX4_steam : MethodName := ⟨RX4, "steam", "(III)I"⟩
abbrev cX4_rim : ByteArray := prog_1_method_6_code
def yX4_rim : MethodName := ⟨RX4, "rim", "(I)I"⟩
abbrev cX4_load : ByteArray := prog_1_method_7_code
def yX4_load : MethodName := ⟨RX4, "load", "()I"⟩
abbrev cX4_warm : ByteArray := prog_1_method_8_code
def yX4_warm : MethodName := ⟨RX4, "warm", "(I)I"⟩
abbrev cX4_set : ByteArray := prog_1_method_9_code
def yX4_set : MethodName := ⟨RX4, "set", "(I)I"⟩
abbrev cX4_run : ByteArray := prog_1_method_10_code
def yX4_run : MethodName := ⟨RX4, "run", "(I)I"⟩
abbrev cX4_unload : ByteArray := prog_1_method_11_code
def yX4_unload : MethodName := ⟨RX4, "unload", "()I"⟩
abbrev cX4_vial : ByteArray := prog_1_method_12_code
def yX4_vial : MethodName := ⟨RX4, "vial", "(II)I"⟩
abbrev cX4_about : ByteArray := prog_1_method_13_code
def yX4_about : MethodName := ⟨RX4, "about", "(I)I"⟩
abbrev cX4_gauge : ByteArray := prog_1_method_14_code
def yX4_gauge : MethodName := ⟨RX4, "gauge", "(II)I"⟩
abbrev cX4_end : ByteArray := prog_1_method_15_code
def yX4_end : MethodName := ⟨RX4, "end", "(II)I"⟩
abbrev cX4_wet : ByteArray := prog_1_method_16_code
def yX4_wet : MethodName := ⟨RX4, "wet", "(I)I"⟩
abbrev cX4_firstFallen : ByteArray := prog_1_method_17_code
def yX4_firstFallen : MethodName := ⟨RX4, "firstFallen", "()I"⟩
abbrev cX4_trial : ByteArray := prog_1_method_18_code
def yX4_trial : MethodName := ⟨RX4, "trial", "(III)I"⟩
abbrev cX4_tried : ByteArray := prog_1_method_19_code
def yX4_tried : MethodName := ⟨RX4, "tried", "(I)I"⟩
abbrev cX4_edge : ByteArray := prog_1_method_20_code
def yX4_edge : MethodName := ⟨RX4, "edge", "(II)I"⟩
abbrev cX4_told : ByteArray := prog_1_method_21_code
def yX4_told : MethodName := ⟨RX4, "told", "(I)I"⟩
abbrev cX4_places : ByteArray := prog_1_method_22_code
def yX4_places : MethodName := ⟨RX4, "places", "()I"⟩
abbrev cX4_isAtRim : ByteArray := prog_1_method_23_code
def yX4_isAtRim : MethodName := ⟨RX4, "isAtRim", "(I)Z"⟩
abbrev cX4_isMapped : ByteArray := prog_1_method_24_code
def yX4_isMapped : MethodName := ⟨RX4, "isMapped", "(II)Z"⟩
abbrev cX4_noneFalls : ByteArray := prog_1_method_25_code
def yX4_noneFalls : MethodName := ⟨RX4, "noneFalls", "(III)Z"⟩
abbrev cX4_within : ByteArray := prog_1_method_26_code
def yX4_within : MethodName := ⟨RX4, "within", "(III)Z"⟩
abbrev cX4_quotient : ByteArray := prog_1_method_27_code
def yX4_quotient : MethodName := ⟨RX4, "quotient", "(II)I"⟩
abbrev cX4_vapourAt : ByteArray := prog_1_method_28_code
def yX4_vapourAt : MethodName := ⟨RX4, "vapourAt", "(I)I"⟩
abbrev cX4_steamAt : ByteArray := prog_1_method_29_code
def yX4_steamAt : MethodName := ⟨RX4, "steamAt", "(III)I"⟩
def RX5 : String := "ColdDryerModel"
def TX5 : u_T := fun k => match k with
  | 0 => ("ColdDryerModel", "rows", "I", false)
  | 1 => ("ColdDryerModel", "columns", "I", false)
  | 2 => ("ColdDryerModel", "rules", "[I", true)
  | 3 => ("ColdDryerModel", "isLoaded", "Z", false)
  | 4 => ("ColdDryerModel", "warmth", "I", false)
  | 5 => ("ColdDryerModel", "pressureSet", "I", false)
  | 6 => ("ColdDryerModel", "ice", "[I", true)
  | 7 => ("ColdDryerModel", "warm", "[I", true)
  | 8 => ("ColdDryerModel", "gave", "[I", true)
  | 9 => ("ColdDryerModel", "fell", "[I", true)
  | 10 => ("ColdDryerModel", "dryAt", "[I", true)
  | 11 => ("ColdDryerModel", "minute", "[I", true)
  | 12 => ("ColdDryerModel", "pressure", "[I", true)
  | 13 => ("ColdDryerModel", "highest", "[I", true)
  | 14 => ("ColdDryerModel", "all", "[I", true)
  | 15 => ("ColdDryerModel", "steamed", "[I", true)
  | 16 => ("ColdDryerModel", "one", "[I", true)
  | 17 => ("ColdDryerModel", "other", "[I", true)
  | 18 => ("ColdDryerModel", "wet", "[I", true)
  | 19 => ("ColdDryerModel", "hasTried", "Z", false)
  | _ => ("ColdDryerModel", "tried", "[I", true)
def tyX5 : Nat → FieldType := fun k => match k with
  | 0 => .int
  | 1 => .int
  | 2 => .array .int
  | 3 => .boolean
  | 4 => .int
  | 5 => .int
  | 6 => .array .int
  | 7 => .array .int
  | 8 => .array .int
  | 9 => .array .int
  | 10 => .array .int
  | 11 => .array .int
  | 12 => .array .int
  | 13 => .array .int
  | 14 => .array .int
  | 15 => .array .int
  | 16 => .array .int
  | 17 => .array .int
  | 18 => .array .int
  | 19 => .boolean
  | _ => .array .int
abbrev wsX50 : List Cond := u_ws RX5 TX5 21
theorem nmX5 : ∀ a, a < 21 → ∀ b, b < 21 → a ≠ b → (TX5 a).2.1 ≠ (TX5 b).2.1 := by decide +kernel
theorem tyX5_ok : ∀ k, k < 21 → parseFieldDescriptor (TX5 k).2.2.1 = some (tyX5 k) := by decide +kernel
abbrev cX5_init : ByteArray := prog_7_method_1_code
def yX5_init : MethodName := ⟨RX5, "<init>", "()V"⟩
abbrev cX5_in : ByteArray := prog_7_method_3_code
def yX5_in : MethodName := ⟨RX5, "in", "(JJJ)Z"⟩
abbrev cX5_vials : ByteArray := prog_7_method_4_code
def yX5_vials : MethodName := ⟨RX5, "vials", "()I"⟩
abbrev cX5_shelf : ByteArray := prog_7_method_5_code
def yX5_shelf : MethodName := ⟨RX5, "shelf", "(II)I"⟩
abbrev cX5_leastOf : ByteArray := prog_7_method_6_code
def yX5_leastOf : MethodName := ⟨RX5, "leastOf", "(I)I"⟩
abbrev cX5_mostOf : ByteArray := prog_7_method_7_code
def yX5_mostOf : MethodName := ⟨RX5, "mostOf", "(I)I"⟩
abbrev cX5_rule : ByteArray := prog_7_method_8_code
def yX5_rule : MethodName := ⟨RX5, "rule", "(II)I"⟩
abbrev cX5_bend : ByteArray := prog_7_method_9_code
def yX5_bend : MethodName := ⟨RX5, "bend", "(I)I"⟩
abbrev cX5_vapourAt : ByteArray := prog_7_method_10_code
def yX5_vapourAt : MethodName := ⟨RX5, "vapourAt", "(I)I"⟩
abbrev cX5_vapour : ByteArray := prog_7_method_11_code
def yX5_vapour : MethodName := ⟨RX5, "vapour", "(I)I"⟩
abbrev cX5_steamAt : ByteArray := prog_7_method_12_code
def yX5_steamAt : MethodName := ⟨RX5, "steamAt", "(III)I"⟩
abbrev cX5_steam : ByteArray := prog_7_method_13_code
def yX5_steam : MethodName := ⟨RX5, "steam", "(III)I"⟩
abbrev cX5_isRim : ByteArray := prog_7_method_14_code
def yX5_isRim : MethodName := ⟨RX5, "isRim", "(I)Z"⟩
abbrev cX5_rim : ByteArray := prog_7_method_15_code
def yX5_rim : MethodName := ⟨RX5, "rim", "(I)I"⟩
abbrev cX5_fill : ByteArray := prog_7_method_16_code
def yX5_fill : MethodName := ⟨RX5, "fill", "(II)V"⟩
abbrev cX5_holds : ByteArray := prog_7_method_17_code
def yX5_holds : MethodName := ⟨RX5, "holds", "(IIII)Z"⟩
abbrev cX5_warmthOf : ByteArray := prog_7_method_18_code
def yX5_warmthOf : MethodName := ⟨RX5, "warmthOf", "(III)I"⟩
abbrev cX5_goOn : ByteArray := prog_7_method_19_code
def yX5_goOn : MethodName := ⟨RX5, "goOn", "(III)V"⟩
abbrev cX5_wetOf : ByteArray := prog_7_method_20_code
def yX5_wetOf : MethodName := ⟨RX5, "wetOf", "(I)I"⟩
abbrev cX5_firstOf : ByteArray := prog_7_method_21_code
def yX5_firstOf : MethodName := ⟨RX5, "firstOf", "(I)I"⟩
abbrev cX5_load : ByteArray := prog_7_method_22_code
def yX5_load : MethodName := ⟨RX5, "load", "()I"⟩
abbrev cX5_warm : ByteArray := prog_7_method_23_code
def yX5_warm : MethodName := ⟨RX5, "warm", "(I)I"⟩
abbrev cX5_set : ByteArray := prog_7_method_24_code
def yX5_set : MethodName := ⟨RX5, "set", "(I)I"⟩
abbrev cX5_run : ByteArray := prog_7_method_25_code
def yX5_run : MethodName := ⟨RX5, "run", "(I)I"⟩
abbrev cX5_unload : ByteArray := prog_7_method_26_code
def yX5_unload : MethodName := ⟨RX5, "unload", "()I"⟩
abbrev cX5_vial : ByteArray := prog_7_method_27_code
def yX5_vial : MethodName := ⟨RX5, "vial", "(II)I"⟩
abbrev cX5_about : ByteArray := prog_7_method_28_code
def yX5_about : MethodName := ⟨RX5, "about", "(I)I"⟩
abbrev cX5_gauge : ByteArray := prog_7_method_29_code
def yX5_gauge : MethodName := ⟨RX5, "gauge", "(II)I"⟩
abbrev cX5_end : ByteArray := prog_7_method_30_code
def yX5_end : MethodName := ⟨RX5, "end", "(II)I"⟩
abbrev cX5_wet : ByteArray := prog_7_method_31_code
def yX5_wet : MethodName := ⟨RX5, "wet", "(I)I"⟩
abbrev cX5_firstFallen : ByteArray := prog_7_method_32_code
def yX5_firstFallen : MethodName := ⟨RX5, "firstFallen", "()I"⟩
abbrev cX5_tries : ByteArray := prog_7_method_33_code
def yX5_tries : MethodName := ⟨RX5, "tries", "(III)I"⟩
abbrev cX5_trial : ByteArray := prog_7_method_34_code
def yX5_trial : MethodName := ⟨RX5, "trial", "(III)I"⟩
abbrev cX5_tried : ByteArray := prog_7_method_35_code
def yX5_tried : MethodName := ⟨RX5, "tried", "(I)I"⟩
abbrev cX5_edge : ByteArray := prog_7_method_36_code
def yX5_edge : MethodName := ⟨RX5, "edge", "(II)I"⟩
abbrev cX5_told : ByteArray := prog_7_method_37_code
def yX5_told : MethodName := ⟨RX5, "told", "(I)I"⟩
def RJ9 : String := "java/lang/Math"
def TJ9 : u_T := fun k => match k with
  | _ => ("", "", "", false)
def tyJ9 : Nat → FieldType := fun k => match k with
  | _ => .int
abbrev wsJ90 : List Cond := u_ws RJ9 TJ9 0
theorem nmJ9 : ∀ a, a < 0 → ∀ b, b < 0 → a ≠ b → (TJ9 a).2.1 ≠ (TJ9 b).2.1 := by decide +kernel
theorem tyJ9_ok : ∀ k, k < 0 → parseFieldDescriptor (TJ9 k).2.2.1 = some (tyJ9 k) := by decide +kernel
abbrev cJ9_max_7cf53 : ByteArray := prog_8_method_65_code
def yJ9_max_7cf53 : MethodName := ⟨RJ9, "max", "(II)I"⟩
abbrev cJ9_min_7cf53 : ByteArray := prog_8_method_69_code
def yJ9_min_7cf53 : MethodName := ⟨RJ9, "min", "(II)I"⟩
def RJ10 : String := "java/lang/System"
def TJ10 : u_T := fun k => match k with
  | _ => ("", "", "", false)
def tyJ10 : Nat → FieldType := fun k => match k with
  | _ => .int
abbrev wsJ100 : List Cond := u_ws RJ10 TJ10 0
theorem nmJ10 : ∀ a, a < 0 → ∀ b, b < 0 → a ≠ b → (TJ10 a).2.1 ≠ (TJ10 b).2.1 := by decide +kernel
theorem tyJ10_ok : ∀ k, k < 0 → parseFieldDescriptor (TJ10 k).2.2.1 = some (tyJ10 k) := by decide +kernel
def RL : String := "ColdDryerLaw"
abbrev cL_law : ByteArray := code
def yL_law : MethodName := ⟨RL, "law", "([I)Z"⟩
abbrev vwCl : List vw_C := [(RX0, TX0, 8), (RX1, TX1, 3), (RX2, TX2, 7), (RX3, TX3, 1), (RX4, TX4, 10), (RX5, TX5, 21)]
