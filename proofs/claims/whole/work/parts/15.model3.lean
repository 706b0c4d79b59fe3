theorem winJ {v a b : Int64} : (¬ r_X5_in v a b = 0) ↔ (a.toInt ≤ v.toInt ∧ v.toInt ≤ b.toInt) := by
  unfold r_X5_in
  by_cases h1 : lg_cmp v a < 0
  · rw [if_pos h1]
    have := Int64.lt_iff_toInt_lt.mp ((lg_cmp_lt v a).mp h1)
    constructor
    · intro h; exact absurd rfl h
    · intro h; omega
  · rw [if_neg h1]
    have h1' : ¬ v.toInt < a.toInt := fun h => h1 ((lg_cmp_lt v a).mpr (Int64.lt_iff_toInt_lt.mpr h))
    by_cases h2 : 0 < lg_cmp v b
    · rw [if_pos h2]
      have := Int64.lt_iff_toInt_lt.mp ((lg_cmp_gt v b).mp h2)
      constructor
      · intro h; exact absurd rfl h
      · intro h; omega
    · rw [if_neg h2]
      have h2' : ¬ b.toInt < v.toInt := fun h => h2 ((lg_cmp_gt v b).mpr (Int64.lt_iff_toInt_lt.mpr h))
      constructor
      · intro _; omega
      · intro _ h; exact absurd h (by decide)
theorem win {v : Int32} {a b : Int64} : (¬ r_X5_in (Int32.toInt64 v) a b = 0) ↔ (a.toInt ≤ v.toInt ∧ v.toInt ≤ b.toInt) := by
  rw [winJ, Int32.toInt_toInt64]
theorem in_rule {k : Int32} (h : ¬ r_X5_in (Int32.toInt64 k) 0 10 = 0) : vp_in k 11 := by
  have h := win.mp h
  have e0 : (0 : Int64).toInt = 0 := rfl
  have e1 : (10 : Int64).toInt = 10 := rfl
  exact vp_in_iff.mpr (by omega)
theorem in_tried {k : Int32} (h : ¬ r_X5_in (Int32.toInt64 k) 0 4 = 0) : vp_in k 5 := by
  have h := win.mp h
  have e0 : (0 : Int64).toInt = 0 := rfl
  have e1 : (4 : Int64).toInt = 4 := rfl
  exact vp_in_iff.mpr (by omega)
theorem in_told {k : Int32} (h : ¬ r_X5_in (Int32.toInt64 k) 10 20 = 0) : vp_in (k - 10) 11 := by
  have h := win.mp h
  have e0 : (10 : Int64).toInt = 10 := rfl
  have e1 : (20 : Int64).toInt = 20 := rfl
  have e2 : (10 : Int32).toInt = 10 := rfl
  exact vp_in_iff.mpr (by rw [subI (by omega) (by omega)]; omega)
theorem in_vial {k v : Int32} (h1 : 1 ≤ v.toInt) (h2 : v.toInt ≤ 24) (h : ¬ r_X5_in (Int32.toInt64 k) 0 (Int32.toInt64 (v - 1)) = 0) : vp_in k 48 := by
  have h := win.mp h
  have e0 : (0 : Int64).toInt = 0 := rfl
  have e2 : (1 : Int32).toInt = 1 := rfl
  rw [Int32.toInt_toInt64, subI (by omega) (by omega)] at h
  exact vp_in_iff.mpr (by omega)
theorem in_min1 {k v : Int32} (h2 : v.toInt ≤ 2000) (h : ¬ r_X5_in (Int32.toInt64 k) 1 (Int32.toInt64 v) = 0) : vp_in k 2001 := by
  have h := win.mp h
  have e0 : (1 : Int64).toInt = 1 := rfl
  rw [Int32.toInt_toInt64] at h
  exact vp_in_iff.mpr (by omega)
theorem in_min0 {k v : Int32} (h2 : v.toInt ≤ 2000) (h : ¬ r_X5_in (Int32.toInt64 k) 0 (Int32.toInt64 v) = 0) : vp_in k 2001 := by
  have h := win.mp h
  have e0 : (0 : Int64).toInt = 0 := rfl
  rw [Int32.toInt_toInt64] at h
  exact vp_in_iff.mpr (by omega)
theorem in_end {k v : Int32} (h2 : v.toInt ≤ 2000) (h1 : 1 ≤ k.toInt) (c : ¬ v < k) : vp_in k 2001 := by
  have c1 : ¬ v.toInt < k.toInt := fun z => c ((tI_lt v k).mpr z)
  exact vp_in_iff.mpr (by omega)
theorem inc_end {k v : Int32} (h2 : v.toInt ≤ 2000) (h1 : 1 ≤ k.toInt) (c : ¬ v < k) : 1 ≤ (k + 1).toInt := by
  have c1 : ¬ v.toInt < k.toInt := fun z => c ((tI_lt v k).mpr z)
  have e1 : (1 : Int32).toInt = 1 := rfl
  rw [addI (by omega) (by omega)]; omega
/-- the bounds of the rules -/
def RB (ru : Nat → Int32) : Prop := (100 ≤ (ru 0).toInt ∧ (ru 0).toInt ≤ 5000) ∧ (1 ≤ (ru 1).toInt ∧ (ru 1).toInt ≤ 50) ∧ (0 ≤ (ru 2).toInt ∧ (ru 2).toInt ≤ 50) ∧ (1 ≤ (ru 3).toInt ∧ (ru 3).toInt ≤ 50) ∧ (10 ≤ (ru 4).toInt ∧ (ru 4).toInt ≤ 1000) ∧ (0 ≤ (ru 5).toInt ∧ (ru 5).toInt ≤ 50) ∧ (-600 ≤ (ru 6).toInt ∧ (ru 6).toInt ≤ 0) ∧ (1 ≤ (ru 7).toInt ∧ (ru 7).toInt ≤ 10000) ∧ (1 ≤ (ru 8).toInt ∧ (ru 8).toInt ≤ 100) ∧ (1 ≤ (ru 9).toInt ∧ (ru 9).toInt ≤ 500) ∧ (1 ≤ (ru 10).toInt ∧ (ru 10).toInt ≤ 1000)
theorem mul_bd {x y a b : Int} (h1 : 0 ≤ x) (h2 : x ≤ a) (h3 : 0 ≤ y) (h4 : y ≤ b) : 0 ≤ x * y ∧ x * y ≤ a * b := ⟨Int.mul_nonneg h1 h3, Int.mul_le_mul h2 h4 h3 (Int.le_trans h1 h2)⟩
theorem bars_val {ru : Nat → Int32} (h : RB ru) {dd : Int32} (h1 : 0 ≤ dd.toInt) (h2 : dd.toInt ≤ 100) : ((ru 4) + ((ru 5) * dd)).toInt = (ru 4).toInt + (ru 5).toInt * dd.toInt ∧ 10 ≤ (ru 4).toInt + (ru 5).toInt * dd.toInt ∧ (ru 4).toInt + (ru 5).toInt * dd.toInt ≤ 6000 := by
  obtain ⟨-, -, -, -, h4, h5, -⟩ := h
  have hm := mul_bd h5.1 h5.2 h1 h2
  have e : ((ru 5) * dd).toInt = (ru 5).toInt * dd.toInt := mulI (by omega) (by omega)
  rw [addI (by omega) (by omega), e]
  omega
theorem bars_ne {ru : Nat → Int32} (h : RB ru) {dd : Int32} (h1 : 0 ≤ dd.toInt) (h2 : dd.toInt ≤ 100) : ¬ ((ru 4) + ((ru 5) * dd)) = 0 := by
  obtain ⟨e, hb, -⟩ := bars_val h h1 h2
  intro z
  rw [z] at e
  have e0 : (0 : Int32).toInt = 0 := rfl
  omega
theorem bars_st {ru : Nat → Int32} (h : RB ru) {dd : Int32} (c : ¬ r_X5_in (Int32.toInt64 dd) 0 100 = 0) : ¬ ((ru 4) + ((ru 5) * dd)) = 0 := by
  have c := win.mp c
  have e0 : (0 : Int64).toInt = 0 := rfl
  have e1 : (100 : Int64).toInt = 100 := rfl
  exact bars_ne h (by omega) (by omega)
def r_X5_shelf (Y : Nat → Int32) (rw : Int32) (cl : Int32) : Int32 := (if (r_X5_in (Int32.toInt64 rw) 1 4) = 0 then (-2) else (if (r_X5_in (Int32.toInt64 cl) 1 6) = 0 then (-2) else (if (Y 3) = 0 then (r_X5_vials (y21 rw cl (Y 3) (Y 4) (Y 5) (Y 19))) else (-3))))
def q_X5_shelf_Y (Y : Nat → Int32) (rw : Int32) (cl : Int32) : Nat → Int32 := (if (r_X5_in (Int32.toInt64 rw) 1 4) = 0 then Y else (if (r_X5_in (Int32.toInt64 cl) 1 6) = 0 then Y else (if (Y 3) = 0 then (y21 rw cl (Y 3) (Y 4) (Y 5) (Y 19)) else Y)))
theorem ck_X5_shelf : CK yX5_shelf cX5_shelf 3 (some .int) 2 := ⟨wd_2_213, wd_1_7, by decide, by decide, by decide +kernel⟩
set_option maxHeartbeats 4000000 in
set_option maxRecDepth 100000 in
theorem c_X5_shelf (l : Launch) (D : va_G) (cI : ClassId) (a : Nat → Nat) (Y : Nat → Int32) (rw : Int32) (cl : Int32) : MI l D cI yX5_shelf cX5_shelf 3 (some .int) 1 25 [.ref (a 0), .int rw, .int cl] [yc a Y] (r_X5_shelf Y rw cl) [yc a (q_X5_shelf_Y Y rw cl)] := by
  generalize hr : (r_X5_shelf Y rw cl) = r
  generalize ho_Y : (q_X5_shelf_Y Y rw cl) = o_Y
  refine MI.mk (own := RX5) rfl (by decide) rfl (Nat.le_of_ble_eq_true rfl) ?_
  intro p e s m args below meth c A Q C hD hend H locs ls hP hS hl
  have hx := C.1.1
  have hb := C.1.2.1
  have hl : lv_has ls 3 [(0, .ref (a 0)), (1, .int rw), (2, .int cl)] := hl
  refine lv_iload_n hx hb dX5_shelf_0 rfl (lv_at hl 1 rfl) ?_
  refine lv_i2l (v := (Int32.toInt64 rw)) hx hb dX5_shelf_1 rfl ?_
  refine lv_lconst (v := 1) hx hb dX5_shelf_2 (by decide) ?_
  refine kldc2 (v := 4) C wd_2_214 dX5_shelf_3 ?_
  refine go_i (ws' := [yc a Y]) C (rn_S (As := [.long (Int32.toInt64 rw), .long 1, .long 4]) (rest := []) C (c_X5_in l D cI (Int32.toInt64 rw) 1 4 H.size) ck_X5_in wd_2_216 wd_2_215 ⟨Nat.le_of_ble_eq_true rfl, Nat.le_of_ble_eq_true rfl⟩ ⟨Nat.le_refl _, Nat.le_refl _⟩ hP hD hS [] rfl rfl hl rfl (Nat.le_of_ble_eq_true rfl) dX5_shelf_6) hP hD hS [] rfl rfl rfl (fun H locs hP hD hS => ?_)
  refine lv_if_eq (tgt := 24) hx hb dX5_shelf_9 (by decide) (fun c1 => ?_) (fun c1 => ?_)
  · refine lv_bipush (v := (-2)) hx hb dX5_shelf_24 (by decide) ?_
    exact hend _ _ _ _ _ (by rw [← hr, r_X5_shelf, if_pos c1]) (by rw [← ho_Y, q_X5_shelf_Y, if_pos c1]; exact hP) hS dX5_shelf_26
  · refine lv_iload_n hx hb dX5_shelf_12 rfl (lv_at hl 2 rfl) ?_
    refine lv_i2l (v := (Int32.toInt64 cl)) hx hb dX5_shelf_13 rfl ?_
    refine lv_lconst (v := 1) hx hb dX5_shelf_14 (by decide) ?_
    refine kldc2 (v := 6) C wd_2_218 dX5_shelf_15 ?_
    refine go_i (ws' := [yc a Y]) C (rn_S (As := [.long (Int32.toInt64 cl), .long 1, .long 6]) (rest := []) C (c_X5_in l D cI (Int32.toInt64 cl) 1 6 H.size) ck_X5_in wd_2_216 wd_2_215 ⟨Nat.le_of_ble_eq_true rfl, Nat.le_of_ble_eq_true rfl⟩ ⟨Nat.le_refl _, Nat.le_refl _⟩ hP hD hS [] rfl rfl hl rfl (Nat.le_of_ble_eq_true rfl) dX5_shelf_18) hP hD hS [] rfl rfl rfl (fun H locs hP hD hS => ?_)
    refine lv_if_ne (tgt := 27) hx hb dX5_shelf_21 (by decide) (fun c2 => ?_) (fun c2 => ?_)
    · refine lv_aload_n hx hb dX5_shelf_27 rfl (lv_at hl 0 rfl) ?_
      refine kget (v := .int (Y 3)) C hP igX5 rfl 3 (by decide) wd_2_149 0 rfl rfl dX5_shelf_28 ?_
      refine lv_if_eq (tgt := 37) hx hb dX5_shelf_31 (by decide) (fun c3 => ?_) (fun c3 => ?_)
      · refine lv_aload_n hx hb dX5_shelf_37 rfl (lv_at hl 0 rfl) ?_
        refine lv_iload_n hx hb dX5_shelf_38 rfl (lv_at hl 1 rfl) ?_
        refine kput (ty := .int) (ws' := [yc a (y21 rw (Y 1) (Y 3) (Y 4) (Y 5) (Y 19))]) C hP hD hS igX5 tyX5_ok nmX5 rfl 0 (by decide) wd_2_146 rfl rfl rfl rfl 0 rfl (Nat.le_of_ble_eq_true rfl) rfl dX5_shelf_39 (fun H locs hP hD hS => ?_)
        refine lv_aload_n hx hb dX5_shelf_42 rfl (lv_at hl 0 rfl) ?_
        refine lv_iload_n hx hb dX5_shelf_43 rfl (lv_at hl 2 rfl) ?_
        refine kput (ty := .int) (ws' := [yc a (y21 rw cl (Y 3) (Y 4) (Y 5) (Y 19))]) C hP hD hS igX5 tyX5_ok nmX5 rfl 1 (by decide) wd_2_147 rfl rfl rfl rfl 0 rfl (Nat.le_of_ble_eq_true rfl) rfl dX5_shelf_44 (fun H locs hP hD hS => ?_)
        refine lv_aload_n hx hb dX5_shelf_47 rfl (lv_at hl 0 rfl) ?_
        refine go_i (ws' := [yc a (y21 rw cl (Y 3) (Y 4) (Y 5) (Y 19))]) C (rn_V (As := []) (rest := []) C (c_X5_vials l D cI a (y21 rw cl (Y 3) (Y 4) (Y 5) (Y 19)) H.size) ck_X5_vials wd_2_221 wd_0_5 wd_2_219 ⟨Nat.le_of_ble_eq_true rfl, Nat.le_of_ble_eq_true rfl⟩ ⟨Nat.le_refl _, Nat.le_refl _⟩ (ci := 5) (q0 := 0) rfl rfl hP hD hS [0] rfl rfl hl rfl (Nat.le_of_ble_eq_true rfl) dX5_shelf_48) hP hD hS [0] rfl rfl rfl (fun H locs hP hD hS => ?_)
        exact hend _ _ _ _ _ (by rw [← hr, r_X5_shelf, if_neg c1, if_neg c2, if_pos c3]) (by rw [← ho_Y, q_X5_shelf_Y, if_neg c1, if_neg c2, if_pos c3]; exact hP) hS dX5_shelf_51
      · refine lv_bipush (v := (-3)) hx hb dX5_shelf_34 (by decide) ?_
        exact hend _ _ _ _ _ (by rw [← hr, r_X5_shelf, if_neg c1, if_neg c2, if_neg c3]) (by rw [← ho_Y, q_X5_shelf_Y, if_neg c1, if_neg c2, if_neg c3]; exact hP) hS dX5_shelf_36
    · refine lv_bipush (v := (-2)) hx hb dX5_shelf_24 (by decide) ?_
      exact hend _ _ _ _ _ (by rw [← hr, r_X5_shelf, if_neg c1, if_pos c2]) (by rw [← ho_Y, q_X5_shelf_Y, if_neg c1, if_pos c2]; exact hP) hS dX5_shelf_26
def r_X5_rule (Y : Nat → Int32) (ru : Nat → Int32) (k : Int32) (v : Int32) : Int32 := (if (r_X5_in (Int32.toInt64 k) 0 10) = 0 then (-10001) else (if (r_X5_in (Int32.toInt64 v) (Int32.toInt64 (r_X5_leastOf k)) (Int32.toInt64 (r_X5_mostOf k))) = 0 then (-10002) else (if (Y 3) = 0 then (ru (Int32.toNatClampNeg k)) else (-10003))))
def q_X5_rule_ru (Y : Nat → Int32) (ru : Nat → Int32) (k : Int32) (v : Int32) : Nat → Int32 := (if (r_X5_in (Int32.toInt64 k) 0 10) = 0 then ru else (if (r_X5_in (Int32.toInt64 v) (Int32.toInt64 (r_X5_leastOf k)) (Int32.toInt64 (r_X5_mostOf k))) = 0 then ru else (if (Y 3) = 0 then (upd ru (Int32.toNatClampNeg k) v) else ru)))
theorem ck_X5_rule : CK yX5_rule cX5_rule 4 (some .int) 2 := ⟨wd_2_226, wd_1_7, by decide, by decide, by decide +kernel⟩
set_option maxHeartbeats 4000000 in
set_option maxRecDepth 100000 in
theorem c_X5_rule (l : Launch) (D : va_G) (cI : ClassId) (a : Nat → Nat) (Y : Nat → Int32) (ru : Nat → Int32) (k : Int32) (v : Int32) : MI l D cI yX5_rule cX5_rule 4 (some .int) 1 25 [.ref (a 0), .int k, .int v] [yc a Y, ac cI (a 2) 11 ru] (r_X5_rule Y ru k v) [yc a Y, ac cI (a 2) 11 (q_X5_rule_ru Y ru k v)] := by
  generalize hr : (r_X5_rule Y ru k v) = r
  generalize ho_ru : (q_X5_rule_ru Y ru k v) = o_ru
  refine MI.mk (own := RX5) rfl (by decide) rfl (Nat.le_of_ble_eq_true rfl) ?_
  intro p e s m args below meth c A Q C hD hend H locs ls hP hS hl
  have hx := C.1.1
  have hb := C.1.2.1
  have hl : lv_has ls 4 [(0, .ref (a 0)), (1, .int k), (2, .int v)] := hl
  refine lv_iload_n hx hb dX5_rule_0 rfl (lv_at hl 1 rfl) ?_
  refine lv_i2l (v := (Int32.toInt64 k)) hx hb dX5_rule_1 rfl ?_
  refine lv_lconst (v := 0) hx hb dX5_rule_2 (by decide) ?_
  refine kldc2 (v := 10) C wd_2_227 dX5_rule_3 ?_
  refine go_i (ws' := [yc a Y, ac cI (a 2) 11 ru]) C (rn_S (As := [.long (Int32.toInt64 k), .long 0, .long 10]) (rest := []) C (c_X5_in l D cI (Int32.toInt64 k) 0 10 H.size) ck_X5_in wd_2_216 wd_2_215 ⟨Nat.le_of_ble_eq_true rfl, Nat.le_of_ble_eq_true rfl⟩ ⟨Nat.le_refl _, Nat.le_refl _⟩ hP hD hS [] rfl rfl hl rfl (Nat.le_of_ble_eq_true rfl) dX5_rule_6) hP hD hS [] rfl rfl rfl (fun H locs hP hD hS => ?_)
  refine lv_if_ne (tgt := 16) hx hb dX5_rule_9 (by decide) (fun c1 => ?_) (fun c1 => ?_)
  · refine lv_iload_n hx hb dX5_rule_16 rfl (lv_at hl 2 rfl) ?_
    refine lv_i2l (v := (Int32.toInt64 v)) hx hb dX5_rule_17 rfl ?_
    refine lv_iload_n hx hb dX5_rule_18 rfl (lv_at hl 1 rfl) ?_
    refine go_i (ws' := [yc a Y, ac cI (a 2) 11 ru]) C (rn_S (As := [.int k]) (rest := [.long (Int32.toInt64 v)]) C (c_X5_leastOf l D cI k H.size) ck_X5_leastOf wd_2_229 wd_2_228 ⟨Nat.le_of_ble_eq_true rfl, Nat.le_of_ble_eq_true rfl⟩ ⟨Nat.le_refl _, Nat.le_refl _⟩ hP hD hS [] rfl rfl hl rfl (Nat.le_of_ble_eq_true rfl) dX5_rule_19) hP hD hS [] rfl rfl rfl (fun H locs hP hD hS => ?_)
    refine lv_i2l (v := (Int32.toInt64 (r_X5_leastOf k))) hx hb dX5_rule_22 rfl ?_
    refine lv_iload_n hx hb dX5_rule_23 rfl (lv_at hl 1 rfl) ?_
    refine go_i (ws' := [yc a Y, ac cI (a 2) 11 ru]) C (rn_S (As := [.int k]) (rest := [.long (Int32.toInt64 (r_X5_leastOf k)), .long (Int32.toInt64 v)]) C (c_X5_mostOf l D cI k H.size) ck_X5_mostOf wd_2_232 wd_2_231 ⟨Nat.le_of_ble_eq_true rfl, Nat.le_of_ble_eq_true rfl⟩ ⟨Nat.le_refl _, Nat.le_refl _⟩ hP hD hS [] rfl rfl hl rfl (Nat.le_of_ble_eq_true rfl) dX5_rule_24) hP hD hS [] rfl rfl rfl (fun H locs hP hD hS => ?_)
    refine lv_i2l (v := (Int32.toInt64 (r_X5_mostOf k))) hx hb dX5_rule_27 rfl ?_
    refine go_i (ws' := [yc a Y, ac cI (a 2) 11 ru]) C (rn_S (As := [.long (Int32.toInt64 v), .long (Int32.toInt64 (r_X5_leastOf k)), .long (Int32.toInt64 (r_X5_mostOf k))]) (rest := []) C (c_X5_in l D cI (Int32.toInt64 v) (Int32.toInt64 (r_X5_leastOf k)) (Int32.toInt64 (r_X5_mostOf k)) H.size) ck_X5_in wd_2_216 wd_2_215 ⟨Nat.le_of_ble_eq_true rfl, Nat.le_of_ble_eq_true rfl⟩ ⟨Nat.le_refl _, Nat.le_refl _⟩ hP hD hS [] rfl rfl hl rfl (Nat.le_of_ble_eq_true rfl) dX5_rule_28) hP hD hS [] rfl rfl rfl (fun H locs hP hD hS => ?_)
    refine lv_if_ne (tgt := 38) hx hb dX5_rule_31 (by decide) (fun c2 => ?_) (fun c2 => ?_)
    · refine lv_aload_n hx hb dX5_rule_38 rfl (lv_at hl 0 rfl) ?_
      refine kget (v := .int (Y 3)) C hP igX5 rfl 3 (by decide) wd_2_149 0 rfl rfl dX5_rule_39 ?_
      refine lv_if_eq (tgt := 49) hx hb dX5_rule_42 (by decide) (fun c3 => ?_) (fun c3 => ?_)
      · refine lv_aload_n hx hb dX5_rule_49 rfl (lv_at hl 0 rfl) ?_
        refine kget (v := .ref (a 2)) C hP igX5 rfl 2 (by decide) wd_2_148 0 rfl rfl dX5_rule_50 ?_
        refine lv_iload_n hx hb dX5_rule_53 rfl (lv_at hl 1 rfl) ?_
        refine kald C hP 1 rfl (in_rule c1) (k := (Int32.toNatClampNeg k)) rfl dX5_rule_54 ?_
        refine lv_istore_n (lv' := [(3, .int (ru (Int32.toNatClampNeg k))), (0, .ref (a 0)), (1, .int k), (2, .int v)]) hx hb dX5_rule_55 rfl hl (by decide) rfl (fun ls hl => ?_)
        refine lv_aload_n hx hb dX5_rule_56 rfl (lv_at hl 1 rfl) ?_
        refine kget (v := .ref (a 2)) C hP igX5 rfl 2 (by decide) wd_2_148 0 rfl rfl dX5_rule_57 ?_
        refine lv_iload_n hx hb dX5_rule_60 rfl (lv_at hl 2 rfl) ?_
        refine lv_iload_n hx hb dX5_rule_61 rfl (lv_at hl 3 rfl) ?_
        refine kast (ws' := [yc a Y, ac cI (a 2) 11 (upd ru (Int32.toNatClampNeg k) v)]) C hP hD hS 1 rfl (in_rule c1) (k := (Int32.toNatClampNeg k)) rfl rfl dX5_rule_62 (fun H locs hP hD hS => ?_)
        refine lv_iload_n hx hb dX5_rule_63 rfl (lv_at hl 0 rfl) ?_
        exact hend _ _ _ _ _ (by rw [← hr, r_X5_rule, if_neg c1, if_neg c2, if_pos c3]) (by rw [← ho_ru, q_X5_rule_ru, if_neg c1, if_neg c2, if_pos c3]; exact hP) hS dX5_rule_64
      · refine lv_sipush (v := (-10003)) hx hb dX5_rule_45 (by decide) ?_
        exact hend _ _ _ _ _ (by rw [← hr, r_X5_rule, if_neg c1, if_neg c2, if_neg c3]) (by rw [← ho_ru, q_X5_rule_ru, if_neg c1, if_neg c2, if_neg c3]; exact hP) hS dX5_rule_48
    · refine lv_sipush (v := (-10002)) hx hb dX5_rule_34 (by decide) ?_
      exact hend _ _ _ _ _ (by rw [← hr, r_X5_rule, if_neg c1, if_pos c2]) (by rw [← ho_ru, q_X5_rule_ru, if_neg c1, if_pos c2]; exact hP) hS dX5_rule_37
  · refine lv_sipush (v := (-10001)) hx hb dX5_rule_12 (by decide) ?_
    exact hend _ _ _ _ _ (by rw [← hr, r_X5_rule, if_pos c1]) (by rw [← ho_ru, q_X5_rule_ru, if_pos c1]; exact hP) hS dX5_rule_15
def r_X5_vapour (t : Int32) : Int32 := (if (r_X5_in (Int32.toInt64 t) (-600) 0) = 0 then (-2) else (r_X5_vapourAt t))
theorem ck_X5_vapour : CK yX5_vapour cX5_vapour 2 (some .int) 1 := ⟨wd_2_237, wd_1_7, by decide, by decide, by decide +kernel⟩
set_option maxHeartbeats 4000000 in
set_option maxRecDepth 100000 in
theorem c_X5_vapour (l : Launch) (D : va_G) (cI : ClassId) (a : Nat → Nat) (t : Int32) : MI l D cI yX5_vapour cX5_vapour 2 (some .int) 2 42 [.ref (a 0), .int t] [] (r_X5_vapour t) [] := by
  generalize hr : (r_X5_vapour t) = r
  refine MI.mk (own := RX5) rfl (by decide) rfl (Nat.le_of_ble_eq_true rfl) ?_
  intro p e s m args below meth c A Q C hD hend H locs ls hP hS hl
  have hx := C.1.1
  have hb := C.1.2.1
  have hl : lv_has ls 2 [(0, .ref (a 0)), (1, .int t)] := hl
  refine lv_iload_n hx hb dX5_vapour_0 rfl (lv_at hl 1 rfl) ?_
  refine lv_i2l (v := (Int32.toInt64 t)) hx hb dX5_vapour_1 rfl ?_
  refine kldc2 (v := (-600)) C wd_2_238 dX5_vapour_2 ?_
  refine lv_lconst (v := 0) hx hb dX5_vapour_5 (by decide) ?_
  refine go_i (ws' := []) C (rn_S (As := [.long (Int32.toInt64 t), .long (-600), .long 0]) (rest := []) C (c_X5_in l D cI (Int32.toInt64 t) (-600) 0 H.size) ck_X5_in wd_2_216 wd_2_215 ⟨Nat.le_of_ble_eq_true rfl, Nat.le_of_ble_eq_true rfl⟩ ⟨Nat.le_refl _, Nat.le_refl _⟩ hP hD hS [] rfl rfl hl rfl (Nat.le_of_ble_eq_true rfl) dX5_vapour_6) hP hD hS [] rfl rfl rfl (fun H locs hP hD hS => ?_)
  refine lv_if_eq (tgt := 19) hx hb dX5_vapour_9 (by decide) (fun c1 => ?_) (fun c1 => ?_)
  · refine lv_bipush (v := (-2)) hx hb dX5_vapour_19 (by decide) ?_
    exact hend _ _ _ _ _ (by rw [← hr, r_X5_vapour, if_pos c1]) hP hS dX5_vapour_21
  · refine lv_iload_n hx hb dX5_vapour_12 rfl (lv_at hl 1 rfl) ?_
    refine go_i (ws' := []) C (rn_S (As := [.int t]) (rest := []) C (c_X5_vapourAt l D cI t H.size) ck_X5_vapourAt wd_3_0 wd_2_239 ⟨Nat.le_of_ble_eq_true rfl, Nat.le_of_ble_eq_true rfl⟩ ⟨Nat.le_refl _, Nat.le_refl _⟩ hP hD hS [] rfl rfl hl rfl (Nat.le_of_ble_eq_true rfl) dX5_vapour_13) hP hD hS [] rfl rfl rfl (fun H locs hP hD hS => ?_)
    refine lv_goto (tgt := 21) hx hb dX5_vapour_16 (by decide) ?_
    exact hend _ _ _ _ _ (by rw [← hr, r_X5_vapour, if_neg c1]) hP hS dX5_vapour_21
def r_X5_steam (ru : Nat → Int32) (t : Int32) (dd : Int32) (p0 : Int32) : Int32 := (if (r_X5_in (Int32.toInt64 t) (-600) 0) = 0 then (-2) else (if (r_X5_in (Int32.toInt64 dd) 0 100) = 0 then (-2) else (if (r_X5_in (Int32.toInt64 p0) 0 20000) = 0 then (-2) else (r_X5_steamAt ru t dd p0))))
theorem ck_X5_steam : CK yX5_steam cX5_steam 4 (some .int) 3 := ⟨wd_3_8, wd_1_7, by decide, by decide, by decide +kernel⟩
set_option maxHeartbeats 4000000 in
set_option maxRecDepth 100000 in
theorem c_X5_steam (l : Launch) (D : va_G) (cI : ClassId) (a : Nat → Nat) (Y : Nat → Int32) (ru : Nat → Int32) (t : Int32) (dd : Int32) (p0 : Int32) (hRB : RB ru) : MI l D cI yX5_steam cX5_steam 4 (some .int) 3 66 [.ref (a 0), .int t, .int dd, .int p0] [yc a Y, ac cI (a 2) 11 ru] (r_X5_steam ru t dd p0) [yc a Y, ac cI (a 2) 11 ru] := by
  generalize hr : (r_X5_steam ru t dd p0) = r
  refine MI.mk (own := RX5) rfl (by decide) rfl (Nat.le_of_ble_eq_true rfl) ?_
  intro p e s m args below meth c A Q C hD hend H locs ls hP hS hl
  have hx := C.1.1
  have hb := C.1.2.1
  have hl : lv_has ls 4 [(0, .ref (a 0)), (1, .int t), (2, .int dd), (3, .int p0)] := hl
  refine lv_iload_n hx hb dX5_steam_0 rfl (lv_at hl 1 rfl) ?_
  refine lv_i2l (v := (Int32.toInt64 t)) hx hb dX5_steam_1 rfl ?_
  refine kldc2 (v := (-600)) C wd_2_238 dX5_steam_2 ?_
  refine lv_lconst (v := 0) hx hb dX5_steam_5 (by decide) ?_
  refine go_i (ws' := [yc a Y, ac cI (a 2) 11 ru]) C (rn_S (As := [.long (Int32.toInt64 t), .long (-600), .long 0]) (rest := []) C (c_X5_in l D cI (Int32.toInt64 t) (-600) 0 H.size) ck_X5_in wd_2_216 wd_2_215 ⟨Nat.le_of_ble_eq_true rfl, Nat.le_of_ble_eq_true rfl⟩ ⟨Nat.le_refl _, Nat.le_refl _⟩ hP hD hS [] rfl rfl hl rfl (Nat.le_of_ble_eq_true rfl) dX5_steam_6) hP hD hS [] rfl rfl rfl (fun H locs hP hD hS => ?_)
  refine lv_if_eq (tgt := 46) hx hb dX5_steam_9 (by decide) (fun c1 => ?_) (fun c1 => ?_)
  · refine lv_bipush (v := (-2)) hx hb dX5_steam_46 (by decide) ?_
    exact hend _ _ _ _ _ (by rw [← hr, r_X5_steam, if_pos c1]) hP hS dX5_steam_48
  · refine lv_iload_n hx hb dX5_steam_12 rfl (lv_at hl 2 rfl) ?_
    refine lv_i2l (v := (Int32.toInt64 dd)) hx hb dX5_steam_13 rfl ?_
    refine lv_lconst (v := 0) hx hb dX5_steam_14 (by decide) ?_
    refine kldc2 (v := 100) C wd_3_9 dX5_steam_15 ?_
    refine go_i (ws' := [yc a Y, ac cI (a 2) 11 ru]) C (rn_S (As := [.long (Int32.toInt64 dd), .long 0, .long 100]) (rest := []) C (c_X5_in l D cI (Int32.toInt64 dd) 0 100 H.size) ck_X5_in wd_2_216 wd_2_215 ⟨Nat.le_of_ble_eq_true rfl, Nat.le_of_ble_eq_true rfl⟩ ⟨Nat.le_refl _, Nat.le_refl _⟩ hP hD hS [] rfl rfl hl rfl (Nat.le_of_ble_eq_true rfl) dX5_steam_18) hP hD hS [] rfl rfl rfl (fun H locs hP hD hS => ?_)
    refine lv_if_eq (tgt := 46) hx hb dX5_steam_21 (by decide) (fun c2 => ?_) (fun c2 => ?_)
    · refine lv_bipush (v := (-2)) hx hb dX5_steam_46 (by decide) ?_
      exact hend _ _ _ _ _ (by rw [← hr, r_X5_steam, if_neg c1, if_pos c2]) hP hS dX5_steam_48
    · refine lv_iload_n hx hb dX5_steam_24 rfl (lv_at hl 3 rfl) ?_
      refine lv_i2l (v := (Int32.toInt64 p0)) hx hb dX5_steam_25 rfl ?_
      refine lv_lconst (v := 0) hx hb dX5_steam_26 (by decide) ?_
      refine kldc2 (v := 20000) C wd_3_10 dX5_steam_27 ?_
      refine go_i (ws' := [yc a Y, ac cI (a 2) 11 ru]) C (rn_S (As := [.long (Int32.toInt64 p0), .long 0, .long 20000]) (rest := []) C (c_X5_in l D cI (Int32.toInt64 p0) 0 20000 H.size) ck_X5_in wd_2_216 wd_2_215 ⟨Nat.le_of_ble_eq_true rfl, Nat.le_of_ble_eq_true rfl⟩ ⟨Nat.le_refl _, Nat.le_refl _⟩ hP hD hS [] rfl rfl hl rfl (Nat.le_of_ble_eq_true rfl) dX5_steam_30) hP hD hS [] rfl rfl rfl (fun H locs hP hD hS => ?_)
      refine lv_if_eq (tgt := 46) hx hb dX5_steam_33 (by decide) (fun c3 => ?_) (fun c3 => ?_)
      · refine lv_bipush (v := (-2)) hx hb dX5_steam_46 (by decide) ?_
        exact hend _ _ _ _ _ (by rw [← hr, r_X5_steam, if_neg c1, if_neg c2, if_pos c3]) hP hS dX5_steam_48
      · refine lv_aload_n hx hb dX5_steam_36 rfl (lv_at hl 0 rfl) ?_
        refine lv_iload_n hx hb dX5_steam_37 rfl (lv_at hl 1 rfl) ?_
        refine lv_iload_n hx hb dX5_steam_38 rfl (lv_at hl 2 rfl) ?_
        refine lv_iload_n hx hb dX5_steam_39 rfl (lv_at hl 3 rfl) ?_
        refine go_i (ws' := [yc a Y, ac cI (a 2) 11 ru]) C (rn_V (As := [.int t, .int dd, .int p0]) (rest := []) C (c_X5_steamAt l D cI a Y ru t dd p0 (bars_st hRB c2) H.size) ck_X5_steamAt wd_3_13 wd_0_6 wd_3_11 ⟨Nat.le_of_ble_eq_true rfl, Nat.le_of_ble_eq_true rfl⟩ ⟨Nat.le_refl _, Nat.le_refl _⟩ (ci := 5) (q0 := 0) rfl rfl hP hD hS [0, 1] rfl rfl hl rfl (Nat.le_of_ble_eq_true rfl) dX5_steam_40) hP hD hS [0, 1] rfl rfl rfl (fun H locs hP hD hS => ?_)
        refine lv_goto (tgt := 48) hx hb dX5_steam_43 (by decide) ?_
        exact hend _ _ _ _ _ (by rw [← hr, r_X5_steam, if_neg c1, if_neg c2, if_neg c3]) hP hS dX5_steam_48
def r_X5_rim (Y : Nat → Int32) (k : Int32) : Int32 := (if (r_X5_in (Int32.toInt64 k) 0 (Int32.toInt64 ((r_X5_vials Y) - 1))) = 0 then (-1) else (if (r_X5_isRim Y k) = 0 then 0 else 1))
theorem ck_X5_rim : CK yX5_rim cX5_rim 2 (some .int) 1 := ⟨wd_3_18, wd_1_7, by decide, by decide, by decide +kernel⟩
set_option maxHeartbeats 4000000 in
set_option maxRecDepth 100000 in
theorem c_X5_rim (l : Launch) (D : va_G) (cI : ClassId) (a : Nat → Nat) (Y : Nat → Int32) (k : Int32) (hc : ¬ (Y 1) = 0) : MI l D cI yX5_rim cX5_rim 2 (some .int) 1 25 [.ref (a 0), .int k] [yc a Y] (r_X5_rim Y k) [yc a Y] := by
  generalize hr : (r_X5_rim Y k) = r
  refine MI.mk (own := RX5) rfl (by decide) rfl (Nat.le_of_ble_eq_true rfl) ?_
  intro p e s m args below meth c A Q C hD hend H locs ls hP hS hl
  have hx := C.1.1
  have hb := C.1.2.1
  have hl : lv_has ls 2 [(0, .ref (a 0)), (1, .int k)] := hl
  refine lv_iload_n hx hb dX5_rim_0 rfl (lv_at hl 1 rfl) ?_
  refine lv_i2l (v := (Int32.toInt64 k)) hx hb dX5_rim_1 rfl ?_
  refine lv_lconst (v := 0) hx hb dX5_rim_2 (by decide) ?_
  refine lv_aload_n hx hb dX5_rim_3 rfl (lv_at hl 0 rfl) ?_
  refine go_i (ws' := [yc a Y]) C (rn_V (As := []) (rest := [.long 0, .long (Int32.toInt64 k)]) C (c_X5_vials l D cI a Y H.size) ck_X5_vials wd_2_221 wd_0_5 wd_2_219 ⟨Nat.le_of_ble_eq_true rfl, Nat.le_of_ble_eq_true rfl⟩ ⟨Nat.le_refl _, Nat.le_refl _⟩ (ci := 5) (q0 := 0) rfl rfl hP hD hS [0] rfl rfl hl rfl (Nat.le_of_ble_eq_true rfl) dX5_rim_4) hP hD hS [0] rfl rfl rfl (fun H locs hP hD hS => ?_)
  refine lv_iconst (v := 1) hx hb dX5_rim_7 (by decide) ?_
  refine lv_isub hx hb dX5_rim_8 ?_
  refine lv_i2l (v := (Int32.toInt64 ((r_X5_vials Y) - 1))) hx hb dX5_rim_9 rfl ?_
  refine go_i (ws' := [yc a Y]) C (rn_S (As := [.long (Int32.toInt64 k), .long 0, .long (Int32.toInt64 ((r_X5_vials Y) - 1))]) (rest := []) C (c_X5_in l D cI (Int32.toInt64 k) 0 (Int32.toInt64 ((r_X5_vials Y) - 1)) H.size) ck_X5_in wd_2_216 wd_2_215 ⟨Nat.le_of_ble_eq_true rfl, Nat.le_of_ble_eq_true rfl⟩ ⟨Nat.le_refl _, Nat.le_refl _⟩ hP hD hS [] rfl rfl hl rfl (Nat.le_of_ble_eq_true rfl) dX5_rim_10) hP hD hS [] rfl rfl rfl (fun H locs hP hD hS => ?_)
  refine lv_if_ne (tgt := 20) hx hb dX5_rim_13 (by decide) (fun c1 => ?_) (fun c1 => ?_)
  · refine lv_aload_n hx hb dX5_rim_20 rfl (lv_at hl 0 rfl) ?_
    refine lv_iload_n hx hb dX5_rim_21 rfl (lv_at hl 1 rfl) ?_
    refine go_i (ws' := [yc a Y]) C (rn_V (As := [.int k]) (rest := []) C (c_X5_isRim l D cI a Y k hc H.size) ck_X5_isRim wd_3_21 wd_0_7 wd_3_19 ⟨Nat.le_of_ble_eq_true rfl, Nat.le_of_ble_eq_true rfl⟩ ⟨Nat.le_refl _, Nat.le_refl _⟩ (ci := 5) (q0 := 0) rfl rfl hP hD hS [0] rfl rfl hl rfl (Nat.le_of_ble_eq_true rfl) dX5_rim_22) hP hD hS [0] rfl rfl rfl (fun H locs hP hD hS => ?_)
    refine lv_if_eq (tgt := 32) hx hb dX5_rim_25 (by decide) (fun c2 => ?_) (fun c2 => ?_)
    · refine lv_iconst (v := 0) hx hb dX5_rim_32 (by decide) ?_
      exact hend _ _ _ _ _ (by rw [← hr, r_X5_rim, if_neg c1, if_pos c2]) hP hS dX5_rim_33
    · refine lv_iconst (v := 1) hx hb dX5_rim_28 (by decide) ?_
      refine lv_goto (tgt := 33) hx hb dX5_rim_29 (by decide) ?_
      exact hend _ _ _ _ _ (by rw [← hr, r_X5_rim, if_neg c1, if_neg c2]) hP hS dX5_rim_33
  · refine lv_iconst (v := (-1)) hx hb dX5_rim_16 (by decide) ?_
    refine lv_goto (tgt := 33) hx hb dX5_rim_17 (by decide) ?_
    exact hend _ _ _ _ _ (by rw [← hr, r_X5_rim, if_pos c1]) hP hS dX5_rim_33
def r_X5_load (Y : Nat → Int32) : Int32 := (if (Y 3) = 0 then (r_X5_vials (y21 (Y 0) (Y 1) 1 (Y 4) (Y 5) (Y 19))) else (-3))
def q_X5_load_Y (Y : Nat → Int32) : Nat → Int32 := (if (Y 3) = 0 then (y21 (Y 0) (Y 1) 1 (Y 4) (Y 5) (Y 19)) else Y)
noncomputable def q_X5_load_ic (Y : Nat → Int32) (ru : Nat → Int32) (ic : Nat → Int32) (wm : Nat → Int32) (ga : Nat → Int32) (fe : Nat → Int32) (dr : Nat → Int32) (mn : Nat → Int32) (pr : Nat → Int32) (hg : Nat → Int32) (al : Nat → Int32) (sd : Nat → Int32) : Nat → Int32 := (if (Y 3) = 0 then (q_X5_fill_ic ru ic wm ga fe dr mn pr hg al sd 0 (Y 5)) else ic)
noncomputable def q_X5_load_wm (Y : Nat → Int32) (ru : Nat → Int32) (ic : Nat → Int32) (wm : Nat → Int32) (ga : Nat → Int32) (fe : Nat → Int32) (dr : Nat → Int32) (mn : Nat → Int32) (pr : Nat → Int32) (hg : Nat → Int32) (al : Nat → Int32) (sd : Nat → Int32) : Nat → Int32 := (if (Y 3) = 0 then (q_X5_fill_wm ru ic wm ga fe dr mn pr hg al sd 0 (Y 5)) else wm)
noncomputable def q_X5_load_ga (Y : Nat → Int32) (ru : Nat → Int32) (ic : Nat → Int32) (wm : Nat → Int32) (ga : Nat → Int32) (fe : Nat → Int32) (dr : Nat → Int32) (mn : Nat → Int32) (pr : Nat → Int32) (hg : Nat → Int32) (al : Nat → Int32) (sd : Nat → Int32) : Nat → Int32 := (if (Y 3) = 0 then (q_X5_fill_ga ru ic wm ga fe dr mn pr hg al sd 0 (Y 5)) else ga)
noncomputable def q_X5_load_fe (Y : Nat → Int32) (ru : Nat → Int32) (ic : Nat → Int32) (wm : Nat → Int32) (ga : Nat → Int32) (fe : Nat → Int32) (dr : Nat → Int32) (mn : Nat → Int32) (pr : Nat → Int32) (hg : Nat → Int32) (al : Nat → Int32) (sd : Nat → Int32) : Nat → Int32 := (if (Y 3) = 0 then (q_X5_fill_fe ru ic wm ga fe dr mn pr hg al sd 0 (Y 5)) else fe)
noncomputable def q_X5_load_dr (Y : Nat → Int32) (ru : Nat → Int32) (ic : Nat → Int32) (wm : Nat → Int32) (ga : Nat → Int32) (fe : Nat → Int32) (dr : Nat → Int32) (mn : Nat → Int32) (pr : Nat → Int32) (hg : Nat → Int32) (al : Nat → Int32) (sd : Nat → Int32) : Nat → Int32 := (if (Y 3) = 0 then (q_X5_fill_dr ru ic wm ga fe dr mn pr hg al sd 0 (Y 5)) else dr)
noncomputable def q_X5_load_mn (Y : Nat → Int32) (ru : Nat → Int32) (ic : Nat → Int32) (wm : Nat → Int32) (ga : Nat → Int32) (fe : Nat → Int32) (dr : Nat → Int32) (mn : Nat → Int32) (pr : Nat → Int32) (hg : Nat → Int32) (al : Nat → Int32) (sd : Nat → Int32) : Nat → Int32 := (if (Y 3) = 0 then (q_X5_fill_mn ru ic wm ga fe dr mn pr hg al sd 0 (Y 5)) else mn)
noncomputable def q_X5_load_pr (Y : Nat → Int32) (ru : Nat → Int32) (ic : Nat → Int32) (wm : Nat → Int32) (ga : Nat → Int32) (fe : Nat → Int32) (dr : Nat → Int32) (mn : Nat → Int32) (pr : Nat → Int32) (hg : Nat → Int32) (al : Nat → Int32) (sd : Nat → Int32) : Nat → Int32 := (if (Y 3) = 0 then (q_X5_fill_pr ru ic wm ga fe dr mn pr hg al sd 0 (Y 5)) else pr)
noncomputable def q_X5_load_hg (Y : Nat → Int32) (ru : Nat → Int32) (ic : Nat → Int32) (wm : Nat → Int32) (ga : Nat → Int32) (fe : Nat → Int32) (dr : Nat → Int32) (mn : Nat → Int32) (pr : Nat → Int32) (hg : Nat → Int32) (al : Nat → Int32) (sd : Nat → Int32) : Nat → Int32 := (if (Y 3) = 0 then (q_X5_fill_hg ru ic wm ga fe dr mn pr hg al sd 0 (Y 5)) else hg)
noncomputable def q_X5_load_al (Y : Nat → Int32) (ru : Nat → Int32) (ic : Nat → Int32) (wm : Nat → Int32) (ga : Nat → Int32) (fe : Nat → Int32) (dr : Nat → Int32) (mn : Nat → Int32) (pr : Nat → Int32) (hg : Nat → Int32) (al : Nat → Int32) (sd : Nat → Int32) : Nat → Int32 := (if (Y 3) = 0 then (q_X5_fill_al ru ic wm ga fe dr mn pr hg al sd 0 (Y 5)) else al)
noncomputable def q_X5_load_sd (Y : Nat → Int32) (ru : Nat → Int32) (ic : Nat → Int32) (wm : Nat → Int32) (ga : Nat → Int32) (fe : Nat → Int32) (dr : Nat → Int32) (mn : Nat → Int32) (pr : Nat → Int32) (hg : Nat → Int32) (al : Nat → Int32) (sd : Nat → Int32) : Nat → Int32 := (if (Y 3) = 0 then (q_X5_fill_sd ru ic wm ga fe dr mn pr hg al sd 0 (Y 5)) else sd)
def q_X5_load_we (Y : Nat → Int32) (we : Nat → Int32) : Nat → Int32 := (if (Y 3) = 0 then (upd we 0 (r_X5_vials (y21 (Y 0) (Y 1) 1 (Y 4) (Y 5) (Y 19)))) else we)
theorem ck_X5_load : CK yX5_load cX5_load 1 (some .int) 0 := ⟨wd_3_26, wd_1_7, by decide, by decide, by decide +kernel⟩
set_option maxHeartbeats 4000000 in
set_option maxRecDepth 100000 in
theorem c_X5_load (l : Launch) (D : va_G) (cI : ClassId) (a : Nat → Nat) (Y : Nat → Int32) (ru : Nat → Int32) (ic : Nat → Int32) (wm : Nat → Int32) (ga : Nat → Int32) (fe : Nat → Int32) (dr : Nat → Int32) (mn : Nat → Int32) (pr : Nat → Int32) (hg : Nat → Int32) (al : Nat → Int32) (sd : Nat → Int32) (we : Nat → Int32) : MI l D cI yX5_load cX5_load 1 (some .int) 1 23 [.ref (a 0)] [yc a Y, ac cI (a 2) 11 ru, ac cI (a 6) 48 ic, ac cI (a 7) 48 wm, ac cI (a 8) 48 ga, ac cI (a 9) 48 fe, ac cI (a 10) 48 dr, ac cI (a 11) 2 mn, ac cI (a 12) 2 pr, ac cI (a 13) 2 hg, ac cI (a 14) 2 al, ac cI (a 15) 2 sd, ac cI (a 18) 2001 we] (r_X5_load Y) [yc a (q_X5_load_Y Y), ac cI (a 2) 11 ru, ac cI (a 6) 48 (q_X5_load_ic Y ru ic wm ga fe dr mn pr hg al sd), ac cI (a 7) 48 (q_X5_load_wm Y ru ic wm ga fe dr mn pr hg al sd), ac cI (a 8) 48 (q_X5_load_ga Y ru ic wm ga fe dr mn pr hg al sd), ac cI (a 9) 48 (q_X5_load_fe Y ru ic wm ga fe dr mn pr hg al sd), ac cI (a 10) 48 (q_X5_load_dr Y ru ic wm ga fe dr mn pr hg al sd), ac cI (a 11) 2 (q_X5_load_mn Y ru ic wm ga fe dr mn pr hg al sd), ac cI (a 12) 2 (q_X5_load_pr Y ru ic wm ga fe dr mn pr hg al sd), ac cI (a 13) 2 (q_X5_load_hg Y ru ic wm ga fe dr mn pr hg al sd), ac cI (a 14) 2 (q_X5_load_al Y ru ic wm ga fe dr mn pr hg al sd), ac cI (a 15) 2 (q_X5_load_sd Y ru ic wm ga fe dr mn pr hg al sd), ac cI (a 18) 2001 (q_X5_load_we Y we)] := by
  generalize hr : (r_X5_load Y) = r
  generalize ho_Y : (q_X5_load_Y Y) = o_Y
  generalize ho_ic : (q_X5_load_ic Y ru ic wm ga fe dr mn pr hg al sd) = o_ic
  generalize ho_wm : (q_X5_load_wm Y ru ic wm ga fe dr mn pr hg al sd) = o_wm
  generalize ho_ga : (q_X5_load_ga Y ru ic wm ga fe dr mn pr hg al sd) = o_ga
  generalize ho_fe : (q_X5_load_fe Y ru ic wm ga fe dr mn pr hg al sd) = o_fe
  generalize ho_dr : (q_X5_load_dr Y ru ic wm ga fe dr mn pr hg al sd) = o_dr
  generalize ho_mn : (q_X5_load_mn Y ru ic wm ga fe dr mn pr hg al sd) = o_mn
  generalize ho_pr : (q_X5_load_pr Y ru ic wm ga fe dr mn pr hg al sd) = o_pr
  generalize ho_hg : (q_X5_load_hg Y ru ic wm ga fe dr mn pr hg al sd) = o_hg
  generalize ho_al : (q_X5_load_al Y ru ic wm ga fe dr mn pr hg al sd) = o_al
  generalize ho_sd : (q_X5_load_sd Y ru ic wm ga fe dr mn pr hg al sd) = o_sd
  generalize ho_we : (q_X5_load_we Y we) = o_we
  refine MI.mk (own := RX5) rfl (by decide) rfl (Nat.le_of_ble_eq_true rfl) ?_
  intro p e s m args below meth c A Q C hD hend H locs ls hP hS hl
  have hx := C.1.1
  have hb := C.1.2.1
  have hl : lv_has ls 1 [(0, .ref (a 0))] := hl
  refine lv_aload_n hx hb dX5_load_0 rfl (lv_at hl 0 rfl) ?_
  refine kget (v := .int (Y 3)) C hP igX5 rfl 3 (by decide) wd_2_149 0 rfl rfl dX5_load_1 ?_
  refine lv_if_eq (tgt := 10) hx hb dX5_load_4 (by decide) (fun c1 => ?_) (fun c1 => ?_)
  · refine lv_aload_n hx hb dX5_load_10 rfl (lv_at hl 0 rfl) ?_
    refine lv_iconst (v := 1) hx hb dX5_load_11 (by decide) ?_
    refine kput (ty := .boolean) (ws' := [yc a (y21 (Y 0) (Y 1) 1 (Y 4) (Y 5) (Y 19)), ac cI (a 2) 11 ru, ac cI (a 6) 48 ic, ac cI (a 7) 48 wm, ac cI (a 8) 48 ga, ac cI (a 9) 48 fe, ac cI (a 10) 48 dr, ac cI (a 11) 2 mn, ac cI (a 12) 2 pr, ac cI (a 13) 2 hg, ac cI (a 14) 2 al, ac cI (a 15) 2 sd, ac cI (a 18) 2001 we]) C hP hD hS igX5 tyX5_ok nmX5 rfl 3 (by decide) wd_2_149 rfl rfl rfl rfl 0 rfl (Nat.le_of_ble_eq_true rfl) rfl dX5_load_12 (fun H locs hP hD hS => ?_)
    refine lv_aload_n hx hb dX5_load_15 rfl (lv_at hl 0 rfl) ?_
    refine lv_iconst (v := 0) hx hb dX5_load_16 (by decide) ?_
    refine lv_aload_n hx hb dX5_load_17 rfl (lv_at hl 0 rfl) ?_
    refine kget (v := .int (Y 5)) C hP igX5 rfl 5 (by decide) wd_2_151 0 rfl rfl dX5_load_18 ?_
    refine go_v (ws' := [yc a (y21 (Y 0) (Y 1) 1 (Y 4) (Y 5) (Y 19)), ac cI (a 2) 11 ru, ac cI (a 6) 48 (q_X5_fill_ic ru ic wm ga fe dr mn pr hg al sd 0 (Y 5)), ac cI (a 7) 48 (q_X5_fill_wm ru ic wm ga fe dr mn pr hg al sd 0 (Y 5)), ac cI (a 8) 48 (q_X5_fill_ga ru ic wm ga fe dr mn pr hg al sd 0 (Y 5)), ac cI (a 9) 48 (q_X5_fill_fe ru ic wm ga fe dr mn pr hg al sd 0 (Y 5)), ac cI (a 10) 48 (q_X5_fill_dr ru ic wm ga fe dr mn pr hg al sd 0 (Y 5)), ac cI (a 11) 2 (q_X5_fill_mn ru ic wm ga fe dr mn pr hg al sd 0 (Y 5)), ac cI (a 12) 2 (q_X5_fill_pr ru ic wm ga fe dr mn pr hg al sd 0 (Y 5)), ac cI (a 13) 2 (q_X5_fill_hg ru ic wm ga fe dr mn pr hg al sd 0 (Y 5)), ac cI (a 14) 2 (q_X5_fill_al ru ic wm ga fe dr mn pr hg al sd 0 (Y 5)), ac cI (a 15) 2 (q_X5_fill_sd ru ic wm ga fe dr mn pr hg al sd 0 (Y 5)), ac cI (a 18) 2001 we]) C (rn_V (As := [.int 0, .int (Y 5)]) (rest := []) C (c_X5_fill l D cI a (y21 (Y 0) (Y 1) 1 (Y 4) (Y 5) (Y 19)) ru ic wm ga fe dr mn pr hg al sd 0 (Y 5) (Or.inl rfl) H.size) ck_X5_fill wd_3_29 wd_0_8 wd_3_27 ⟨Nat.le_of_ble_eq_true rfl, Nat.le_of_ble_eq_true rfl⟩ ⟨Nat.le_refl _, Nat.le_refl _⟩ (ci := 5) (q0 := 0) rfl rfl hP hD hS [0, 1, 2, 3, 4, 5, 6, 7, 8, 9, 10, 11] rfl rfl hl rfl (Nat.le_of_ble_eq_true rfl) dX5_load_21) hP hD hS [0, 1, 2, 3, 4, 5, 6, 7, 8, 9, 10, 11] rfl rfl rfl (fun H locs hP hD hS => ?_)
    refine lv_aload_n hx hb dX5_load_24 rfl (lv_at hl 0 rfl) ?_
    refine kget (v := .ref (a 18)) C hP igX5 rfl 18 (by decide) wd_2_164 0 rfl rfl dX5_load_25 ?_
    refine lv_iconst (v := 0) hx hb dX5_load_28 (by decide) ?_
    refine lv_aload_n hx hb dX5_load_29 rfl (lv_at hl 0 rfl) ?_
    refine go_i (ws' := [yc a (y21 (Y 0) (Y 1) 1 (Y 4) (Y 5) (Y 19)), ac cI (a 2) 11 ru, ac cI (a 6) 48 (q_X5_fill_ic ru ic wm ga fe dr mn pr hg al sd 0 (Y 5)), ac cI (a 7) 48 (q_X5_fill_wm ru ic wm ga fe dr mn pr hg al sd 0 (Y 5)), ac cI (a 8) 48 (q_X5_fill_ga ru ic wm ga fe dr mn pr hg al sd 0 (Y 5)), ac cI (a 9) 48 (q_X5_fill_fe ru ic wm ga fe dr mn pr hg al sd 0 (Y 5)), ac cI (a 10) 48 (q_X5_fill_dr ru ic wm ga fe dr mn pr hg al sd 0 (Y 5)), ac cI (a 11) 2 (q_X5_fill_mn ru ic wm ga fe dr mn pr hg al sd 0 (Y 5)), ac cI (a 12) 2 (q_X5_fill_pr ru ic wm ga fe dr mn pr hg al sd 0 (Y 5)), ac cI (a 13) 2 (q_X5_fill_hg ru ic wm ga fe dr mn pr hg al sd 0 (Y 5)), ac cI (a 14) 2 (q_X5_fill_al ru ic wm ga fe dr mn pr hg al sd 0 (Y 5)), ac cI (a 15) 2 (q_X5_fill_sd ru ic wm ga fe dr mn pr hg al sd 0 (Y 5)), ac cI (a 18) 2001 we]) C (rn_V (As := []) (rest := [.int 0, .ref (a 18)]) C (c_X5_vials l D cI a (y21 (Y 0) (Y 1) 1 (Y 4) (Y 5) (Y 19)) H.size) ck_X5_vials wd_2_221 wd_0_5 wd_2_219 ⟨Nat.le_of_ble_eq_true rfl, Nat.le_of_ble_eq_true rfl⟩ ⟨Nat.le_refl _, Nat.le_refl _⟩ (ci := 5) (q0 := 0) rfl rfl hP hD hS [0] rfl rfl hl rfl (Nat.le_of_ble_eq_true rfl) dX5_load_30) hP hD hS [0] rfl rfl rfl (fun H locs hP hD hS => ?_)
    refine kast (ws' := [yc a (y21 (Y 0) (Y 1) 1 (Y 4) (Y 5) (Y 19)), ac cI (a 2) 11 ru, ac cI (a 6) 48 (q_X5_fill_ic ru ic wm ga fe dr mn pr hg al sd 0 (Y 5)), ac cI (a 7) 48 (q_X5_fill_wm ru ic wm ga fe dr mn pr hg al sd 0 (Y 5)), ac cI (a 8) 48 (q_X5_fill_ga ru ic wm ga fe dr mn pr hg al sd 0 (Y 5)), ac cI (a 9) 48 (q_X5_fill_fe ru ic wm ga fe dr mn pr hg al sd 0 (Y 5)), ac cI (a 10) 48 (q_X5_fill_dr ru ic wm ga fe dr mn pr hg al sd 0 (Y 5)), ac cI (a 11) 2 (q_X5_fill_mn ru ic wm ga fe dr mn pr hg al sd 0 (Y 5)), ac cI (a 12) 2 (q_X5_fill_pr ru ic wm ga fe dr mn pr hg al sd 0 (Y 5)), ac cI (a 13) 2 (q_X5_fill_hg ru ic wm ga fe dr mn pr hg al sd 0 (Y 5)), ac cI (a 14) 2 (q_X5_fill_al ru ic wm ga fe dr mn pr hg al sd 0 (Y 5)), ac cI (a 15) 2 (q_X5_fill_sd ru ic wm ga fe dr mn pr hg al sd 0 (Y 5)), ac cI (a 18) 2001 (upd we 0 (r_X5_vials (y21 (Y 0) (Y 1) 1 (Y 4) (Y 5) (Y 19))))]) C hP hD hS 12 rfl (vp_in_iff.mpr (by decide)) (k := 0) rfl rfl dX5_load_33 (fun H locs hP hD hS => ?_)
    refine lv_aload_n hx hb dX5_load_34 rfl (lv_at hl 0 rfl) ?_
    refine go_i (ws' := [yc a (y21 (Y 0) (Y 1) 1 (Y 4) (Y 5) (Y 19)), ac cI (a 2) 11 ru, ac cI (a 6) 48 (q_X5_fill_ic ru ic wm ga fe dr mn pr hg al sd 0 (Y 5)), ac cI (a 7) 48 (q_X5_fill_wm ru ic wm ga fe dr mn pr hg al sd 0 (Y 5)), ac cI (a 8) 48 (q_X5_fill_ga ru ic wm ga fe dr mn pr hg al sd 0 (Y 5)), ac cI (a 9) 48 (q_X5_fill_fe ru ic wm ga fe dr mn pr hg al sd 0 (Y 5)), ac cI (a 10) 48 (q_X5_fill_dr ru ic wm ga fe dr mn pr hg al sd 0 (Y 5)), ac cI (a 11) 2 (q_X5_fill_mn ru ic wm ga fe dr mn pr hg al sd 0 (Y 5)), ac cI (a 12) 2 (q_X5_fill_pr ru ic wm ga fe dr mn pr hg al sd 0 (Y 5)), ac cI (a 13) 2 (q_X5_fill_hg ru ic wm ga fe dr mn pr hg al sd 0 (Y 5)), ac cI (a 14) 2 (q_X5_fill_al ru ic wm ga fe dr mn pr hg al sd 0 (Y 5)), ac cI (a 15) 2 (q_X5_fill_sd ru ic wm ga fe dr mn pr hg al sd 0 (Y 5)), ac cI (a 18) 2001 (upd we 0 (r_X5_vials (y21 (Y 0) (Y 1) 1 (Y 4) (Y 5) (Y 19))))]) C (rn_V (As := []) (rest := []) C (c_X5_vials l D cI a (y21 (Y 0) (Y 1) 1 (Y 4) (Y 5) (Y 19)) H.size) ck_X5_vials wd_2_221 wd_0_5 wd_2_219 ⟨Nat.le_of_ble_eq_true rfl, Nat.le_of_ble_eq_true rfl⟩ ⟨Nat.le_refl _, Nat.le_refl _⟩ (ci := 5) (q0 := 0) rfl rfl hP hD hS [0] rfl rfl hl rfl (Nat.le_of_ble_eq_true rfl) dX5_load_35) hP hD hS [0] rfl rfl rfl (fun H locs hP hD hS => ?_)
    exact hend _ _ _ _ _ (by rw [← hr, r_X5_load, if_pos c1]) (by rw [← ho_Y, q_X5_load_Y, if_pos c1, ← ho_ic, q_X5_load_ic, if_pos c1, ← ho_wm, q_X5_load_wm, if_pos c1, ← ho_ga, q_X5_load_ga, if_pos c1, ← ho_fe, q_X5_load_fe, if_pos c1, ← ho_dr, q_X5_load_dr, if_pos c1, ← ho_mn, q_X5_load_mn, if_pos c1, ← ho_pr, q_X5_load_pr, if_pos c1, ← ho_hg, q_X5_load_hg, if_pos c1, ← ho_al, q_X5_load_al, if_pos c1, ← ho_sd, q_X5_load_sd, if_pos c1, ← ho_we, q_X5_load_we, if_pos c1]; exact hP) hS dX5_load_38
  · refine lv_bipush (v := (-3)) hx hb dX5_load_7 (by decide) ?_
    exact hend _ _ _ _ _ (by rw [← hr, r_X5_load, if_neg c1]) (by rw [← ho_Y, q_X5_load_Y, if_neg c1, ← ho_ic, q_X5_load_ic, if_neg c1, ← ho_wm, q_X5_load_wm, if_neg c1, ← ho_ga, q_X5_load_ga, if_neg c1, ← ho_fe, q_X5_load_fe, if_neg c1, ← ho_dr, q_X5_load_dr, if_neg c1, ← ho_mn, q_X5_load_mn, if_neg c1, ← ho_pr, q_X5_load_pr, if_neg c1, ← ho_hg, q_X5_load_hg, if_neg c1, ← ho_al, q_X5_load_al, if_neg c1, ← ho_sd, q_X5_load_sd, if_neg c1, ← ho_we, q_X5_load_we, if_neg c1]; exact hP) hS dX5_load_9
def r_X5_warm (Y : Nat → Int32) (t : Int32) : Int32 := (if (r_X5_in (Int32.toInt64 t) (-600) 400) = 0 then (-10002) else (Y 4))
def q_X5_warm_Y (Y : Nat → Int32) (t : Int32) : Nat → Int32 := (if (r_X5_in (Int32.toInt64 t) (-600) 400) = 0 then Y else (y21 (Y 0) (Y 1) (Y 3) t (Y 5) (Y 19)))
theorem ck_X5_warm : CK yX5_warm cX5_warm 3 (some .int) 1 := ⟨wd_3_34, wd_1_7, by decide, by decide, by decide +kernel⟩
set_option maxHeartbeats 4000000 in
set_option maxRecDepth 100000 in
theorem c_X5_warm (l : Launch) (D : va_G) (cI : ClassId) (a : Nat → Nat) (Y : Nat → Int32) (t : Int32) : MI l D cI yX5_warm cX5_warm 3 (some .int) 1 25 [.ref (a 0), .int t] [yc a Y] (r_X5_warm Y t) [yc a (q_X5_warm_Y Y t)] := by
  generalize hr : (r_X5_warm Y t) = r
  generalize ho_Y : (q_X5_warm_Y Y t) = o_Y
  refine MI.mk (own := RX5) rfl (by decide) rfl (Nat.le_of_ble_eq_true rfl) ?_
  intro p e s m args below meth c A Q C hD hend H locs ls hP hS hl
  have hx := C.1.1
  have hb := C.1.2.1
  have hl : lv_has ls 3 [(0, .ref (a 0)), (1, .int t)] := hl
  refine lv_iload_n hx hb dX5_warm_0 rfl (lv_at hl 1 rfl) ?_
  refine lv_i2l (v := (Int32.toInt64 t)) hx hb dX5_warm_1 rfl ?_
  refine kldc2 (v := (-600)) C wd_2_238 dX5_warm_2 ?_
  refine kldc2 (v := 400) C wd_3_35 dX5_warm_5 ?_
  refine go_i (ws' := [yc a Y]) C (rn_S (As := [.long (Int32.toInt64 t), .long (-600), .long 400]) (rest := []) C (c_X5_in l D cI (Int32.toInt64 t) (-600) 400 H.size) ck_X5_in wd_2_216 wd_2_215 ⟨Nat.le_of_ble_eq_true rfl, Nat.le_of_ble_eq_true rfl⟩ ⟨Nat.le_refl _, Nat.le_refl _⟩ hP hD hS [] rfl rfl hl rfl (Nat.le_of_ble_eq_true rfl) dX5_warm_8) hP hD hS [] rfl rfl rfl (fun H locs hP hD hS => ?_)
  refine lv_if_ne (tgt := 18) hx hb dX5_warm_11 (by decide) (fun c1 => ?_) (fun c1 => ?_)
  · refine lv_aload_n hx hb dX5_warm_18 rfl (lv_at hl 0 rfl) ?_
    refine kget (v := .int (Y 4)) C hP igX5 rfl 4 (by decide) wd_2_150 0 rfl rfl dX5_warm_19 ?_
    refine lv_istore_n (lv' := [(2, .int (Y 4)), (0, .ref (a 0)), (1, .int t)]) hx hb dX5_warm_22 rfl hl (by decide) rfl (fun ls hl => ?_)
    refine lv_aload_n hx hb dX5_warm_23 rfl (lv_at hl 1 rfl) ?_
    refine lv_iload_n hx hb dX5_warm_24 rfl (lv_at hl 2 rfl) ?_
    refine kput (ty := .int) (ws' := [yc a (y21 (Y 0) (Y 1) (Y 3) t (Y 5) (Y 19))]) C hP hD hS igX5 tyX5_ok nmX5 rfl 4 (by decide) wd_2_150 rfl rfl rfl rfl 0 rfl (Nat.le_of_ble_eq_true rfl) rfl dX5_warm_25 (fun H locs hP hD hS => ?_)
    refine lv_iload_n hx hb dX5_warm_28 rfl (lv_at hl 0 rfl) ?_
    exact hend _ _ _ _ _ (by rw [← hr, r_X5_warm, if_neg c1]) (by rw [← ho_Y, q_X5_warm_Y, if_neg c1]; exact hP) hS dX5_warm_29
  · refine lv_sipush (v := (-10002)) hx hb dX5_warm_14 (by decide) ?_
    exact hend _ _ _ _ _ (by rw [← hr, r_X5_warm, if_pos c1]) (by rw [← ho_Y, q_X5_warm_Y, if_pos c1]; exact hP) hS dX5_warm_17
def r_X5_set (Y : Nat → Int32) (p0 : Int32) : Int32 := (if (r_X5_in (Int32.toInt64 p0) 0 5000) = 0 then (-2) else (Y 5))
def q_X5_set_Y (Y : Nat → Int32) (p0 : Int32) : Nat → Int32 := (if (r_X5_in (Int32.toInt64 p0) 0 5000) = 0 then Y else (y21 (Y 0) (Y 1) (Y 3) (Y 4) p0 (Y 19)))
theorem ck_X5_set : CK yX5_set cX5_set 3 (some .int) 1 := ⟨wd_3_39, wd_1_7, by decide, by decide, by decide +kernel⟩
set_option maxHeartbeats 4000000 in
set_option maxRecDepth 100000 in
theorem c_X5_set (l : Launch) (D : va_G) (cI : ClassId) (a : Nat → Nat) (Y : Nat → Int32) (p0 : Int32) : MI l D cI yX5_set cX5_set 3 (some .int) 1 25 [.ref (a 0), .int p0] [yc a Y] (r_X5_set Y p0) [yc a (q_X5_set_Y Y p0)] := by
  generalize hr : (r_X5_set Y p0) = r
  generalize ho_Y : (q_X5_set_Y Y p0) = o_Y
  refine MI.mk (own := RX5) rfl (by decide) rfl (Nat.le_of_ble_eq_true rfl) ?_
  intro p e s m args below meth c A Q C hD hend H locs ls hP hS hl
  have hx := C.1.1
  have hb := C.1.2.1
  have hl : lv_has ls 3 [(0, .ref (a 0)), (1, .int p0)] := hl
  refine lv_iload_n hx hb dX5_set_0 rfl (lv_at hl 1 rfl) ?_
  refine lv_i2l (v := (Int32.toInt64 p0)) hx hb dX5_set_1 rfl ?_
  refine lv_lconst (v := 0) hx hb dX5_set_2 (by decide) ?_
  refine kldc2 (v := 5000) C wd_3_40 dX5_set_3 ?_
  refine go_i (ws' := [yc a Y]) C (rn_S (As := [.long (Int32.toInt64 p0), .long 0, .long 5000]) (rest := []) C (c_X5_in l D cI (Int32.toInt64 p0) 0 5000 H.size) ck_X5_in wd_2_216 wd_2_215 ⟨Nat.le_of_ble_eq_true rfl, Nat.le_of_ble_eq_true rfl⟩ ⟨Nat.le_refl _, Nat.le_refl _⟩ hP hD hS [] rfl rfl hl rfl (Nat.le_of_ble_eq_true rfl) dX5_set_6) hP hD hS [] rfl rfl rfl (fun H locs hP hD hS => ?_)
  refine lv_if_ne (tgt := 15) hx hb dX5_set_9 (by decide) (fun c1 => ?_) (fun c1 => ?_)
  · refine lv_aload_n hx hb dX5_set_15 rfl (lv_at hl 0 rfl) ?_
    refine kget (v := .int (Y 5)) C hP igX5 rfl 5 (by decide) wd_2_151 0 rfl rfl dX5_set_16 ?_
    refine lv_istore_n (lv' := [(2, .int (Y 5)), (0, .ref (a 0)), (1, .int p0)]) hx hb dX5_set_19 rfl hl (by decide) rfl (fun ls hl => ?_)
    refine lv_aload_n hx hb dX5_set_20 rfl (lv_at hl 1 rfl) ?_
    refine lv_iload_n hx hb dX5_set_21 rfl (lv_at hl 2 rfl) ?_
    refine kput (ty := .int) (ws' := [yc a (y21 (Y 0) (Y 1) (Y 3) (Y 4) p0 (Y 19))]) C hP hD hS igX5 tyX5_ok nmX5 rfl 5 (by decide) wd_2_151 rfl rfl rfl rfl 0 rfl (Nat.le_of_ble_eq_true rfl) rfl dX5_set_22 (fun H locs hP hD hS => ?_)
    refine lv_iload_n hx hb dX5_set_25 rfl (lv_at hl 0 rfl) ?_
    exact hend _ _ _ _ _ (by rw [← hr, r_X5_set, if_neg c1]) (by rw [← ho_Y, q_X5_set_Y, if_neg c1]; exact hP) hS dX5_set_26
  · refine lv_bipush (v := (-2)) hx hb dX5_set_12 (by decide) ?_
    exact hend _ _ _ _ _ (by rw [← hr, r_X5_set, if_pos c1]) (by rw [← ho_Y, q_X5_set_Y, if_pos c1]; exact hP) hS dX5_set_14
noncomputable def r_X5_unload (Y : Nat → Int32) (ic : Nat → Int32) : Int32 := (if (Y 3) = 0 then (-3) else (r_X5_wetOf (y21 (Y 0) (Y 1) 0 (Y 4) (Y 5) (Y 19)) ic 0))
def q_X5_unload_Y (Y : Nat → Int32) : Nat → Int32 := (if (Y 3) = 0 then Y else (y21 (Y 0) (Y 1) 0 (Y 4) (Y 5) (Y 19)))
theorem ck_X5_unload : CK yX5_unload cX5_unload 1 (some .int) 0 := ⟨wd_3_65, wd_1_7, by decide, by decide, by decide +kernel⟩
set_option maxHeartbeats 4000000 in
set_option maxRecDepth 100000 in
theorem c_X5_unload (l : Launch) (D : va_G) (cI : ClassId) (a : Nat → Nat) (Y : Nat → Int32) (ic : Nat → Int32) (hv : Int32.toInt (r_X5_vials Y) ≤ 24) : MI l D cI yX5_unload cX5_unload 1 (some .int) 2 43 [.ref (a 0)] [yc a Y, ac cI (a 6) 48 ic] (r_X5_unload Y ic) [yc a (q_X5_unload_Y Y), ac cI (a 6) 48 ic] := by
  generalize hr : (r_X5_unload Y ic) = r
  generalize ho_Y : (q_X5_unload_Y Y) = o_Y
  refine MI.mk (own := RX5) rfl (by decide) rfl (Nat.le_of_ble_eq_true rfl) ?_
  intro p e s m args below meth c A Q C hD hend H locs ls hP hS hl
  have hx := C.1.1
  have hb := C.1.2.1
  have hl : lv_has ls 1 [(0, .ref (a 0))] := hl
  refine lv_aload_n hx hb dX5_unload_0 rfl (lv_at hl 0 rfl) ?_
  refine kget (v := .int (Y 3)) C hP igX5 rfl 3 (by decide) wd_2_149 0 rfl rfl dX5_unload_1 ?_
  refine lv_if_ne (tgt := 10) hx hb dX5_unload_4 (by decide) (fun c1 => ?_) (fun c1 => ?_)
  · refine lv_aload_n hx hb dX5_unload_10 rfl (lv_at hl 0 rfl) ?_
    refine lv_iconst (v := 0) hx hb dX5_unload_11 (by decide) ?_
    refine kput (ty := .boolean) (ws' := [yc a (y21 (Y 0) (Y 1) 0 (Y 4) (Y 5) (Y 19)), ac cI (a 6) 48 ic]) C hP hD hS igX5 tyX5_ok nmX5 rfl 3 (by decide) wd_2_149 rfl rfl rfl rfl 0 rfl (Nat.le_of_ble_eq_true rfl) rfl dX5_unload_12 (fun H locs hP hD hS => ?_)
    refine lv_aload_n hx hb dX5_unload_15 rfl (lv_at hl 0 rfl) ?_
    refine lv_iconst (v := 0) hx hb dX5_unload_16 (by decide) ?_
    refine go_i (ws' := [yc a (y21 (Y 0) (Y 1) 0 (Y 4) (Y 5) (Y 19)), ac cI (a 6) 48 ic]) C (rn_V (As := [.int 0]) (rest := []) C (c_X5_wetOf l D cI a (y21 (Y 0) (Y 1) 0 (Y 4) (Y 5) (Y 19)) ic 0 (Or.inl rfl) hv H.size) ck_X5_wetOf wd_3_60 wd_0_12 wd_3_58 ⟨Nat.le_of_ble_eq_true rfl, Nat.le_of_ble_eq_true rfl⟩ ⟨Nat.le_refl _, Nat.le_refl _⟩ (ci := 5) (q0 := 0) rfl rfl hP hD hS [0, 1] rfl rfl hl rfl (Nat.le_of_ble_eq_true rfl) dX5_unload_17) hP hD hS [0, 1] rfl rfl rfl (fun H locs hP hD hS => ?_)
    exact hend _ _ _ _ _ (by rw [← hr, r_X5_unload, if_neg c1]) (by rw [← ho_Y, q_X5_unload_Y, if_neg c1]; exact hP) hS dX5_unload_20
  · refine lv_bipush (v := (-3)) hx hb dX5_unload_7 (by decide) ?_
    exact hend _ _ _ _ _ (by rw [← hr, r_X5_unload, if_pos c1]) (by rw [← ho_Y, q_X5_unload_Y, if_pos c1]; exact hP) hS dX5_unload_9
def r_X5_vial (Y : Nat → Int32) (ic : Nat → Int32) (wm : Nat → Int32) (ga : Nat → Int32) (fe : Nat → Int32) (dr : Nat → Int32) (k : Int32) (wh : Int32) : Int32 := (if (Y 3) = 0 then (-10003) else (if (r_X5_in (Int32.toInt64 k) 0 (Int32.toInt64 ((r_X5_vials Y) - 1))) = 0 then (-10001) else (if wh = 0 then (ic (Int32.toNatClampNeg k)) else (if wh = 1 then (wm (Int32.toNatClampNeg k)) else (if wh = 2 then (ga (Int32.toNatClampNeg k)) else (if wh = 3 then (fe (Int32.toNatClampNeg k)) else (if wh = 4 then (dr (Int32.toNatClampNeg k)) else (-10002))))))))
theorem ck_X5_vial : CK yX5_vial cX5_vial 3 (some .int) 2 := ⟨wd_3_69, wd_1_7, by decide, by decide, by decide +kernel⟩
set_option maxHeartbeats 4000000 in
set_option maxRecDepth 100000 in
theorem c_X5_vial (l : Launch) (D : va_G) (cI : ClassId) (a : Nat → Nat) (Y : Nat → Int32) (ic : Nat → Int32) (wm : Nat → Int32) (ga : Nat → Int32) (fe : Nat → Int32) (dr : Nat → Int32) (k : Int32) (wh : Int32) (h1 : 1 ≤ Int32.toInt (r_X5_vials Y)) (hv : Int32.toInt (r_X5_vials Y) ≤ 24) : MI l D cI yX5_vial cX5_vial 3 (some .int) 1 25 [.ref (a 0), .int k, .int wh] [yc a Y, ac cI (a 6) 48 ic, ac cI (a 7) 48 wm, ac cI (a 8) 48 ga, ac cI (a 9) 48 fe, ac cI (a 10) 48 dr] (r_X5_vial Y ic wm ga fe dr k wh) [yc a Y, ac cI (a 6) 48 ic, ac cI (a 7) 48 wm, ac cI (a 8) 48 ga, ac cI (a 9) 48 fe, ac cI (a 10) 48 dr] := by
  generalize hr : (r_X5_vial Y ic wm ga fe dr k wh) = r
  refine MI.mk (own := RX5) rfl (by decide) rfl (Nat.le_of_ble_eq_true rfl) ?_
  intro p e s m args below meth c A Q C hD hend H locs ls hP hS hl
  have hx := C.1.1
  have hb := C.1.2.1
  have hl : lv_has ls 3 [(0, .ref (a 0)), (1, .int k), (2, .int wh)] := hl
  refine lv_aload_n hx hb dX5_vial_0 rfl (lv_at hl 0 rfl) ?_
  refine kget (v := .int (Y 3)) C hP igX5 rfl 3 (by decide) wd_2_149 0 rfl rfl dX5_vial_1 ?_
  refine lv_if_ne (tgt := 11) hx hb dX5_vial_4 (by decide) (fun c1 => ?_) (fun c1 => ?_)
  · refine lv_iload_n hx hb dX5_vial_11 rfl (lv_at hl 1 rfl) ?_
    refine lv_i2l (v := (Int32.toInt64 k)) hx hb dX5_vial_12 rfl ?_
    refine lv_lconst (v := 0) hx hb dX5_vial_13 (by decide) ?_
    refine lv_aload_n hx hb dX5_vial_14 rfl (lv_at hl 0 rfl) ?_
    refine go_i (ws' := [yc a Y, ac cI (a 6) 48 ic, ac cI (a 7) 48 wm, ac cI (a 8) 48 ga, ac cI (a 9) 48 fe, ac cI (a 10) 48 dr]) C (rn_V (As := []) (rest := [.long 0, .long (Int32.toInt64 k)]) C (c_X5_vials l D cI a Y H.size) ck_X5_vials wd_2_221 wd_0_5 wd_2_219 ⟨Nat.le_of_ble_eq_true rfl, Nat.le_of_ble_eq_true rfl⟩ ⟨Nat.le_refl _, Nat.le_refl _⟩ (ci := 5) (q0 := 0) rfl rfl hP hD hS [0] rfl rfl hl rfl (Nat.le_of_ble_eq_true rfl) dX5_vial_15) hP hD hS [0] rfl rfl rfl (fun H locs hP hD hS => ?_)
    refine lv_iconst (v := 1) hx hb dX5_vial_18 (by decide) ?_
    refine lv_isub hx hb dX5_vial_19 ?_
    refine lv_i2l (v := (Int32.toInt64 ((r_X5_vials Y) - 1))) hx hb dX5_vial_20 rfl ?_
    refine go_i (ws' := [yc a Y, ac cI (a 6) 48 ic, ac cI (a 7) 48 wm, ac cI (a 8) 48 ga, ac cI (a 9) 48 fe, ac cI (a 10) 48 dr]) C (rn_S (As := [.long (Int32.toInt64 k), .long 0, .long (Int32.toInt64 ((r_X5_vials Y) - 1))]) (rest := []) C (c_X5_in l D cI (Int32.toInt64 k) 0 (Int32.toInt64 ((r_X5_vials Y) - 1)) H.size) ck_X5_in wd_2_216 wd_2_215 ⟨Nat.le_of_ble_eq_true rfl, Nat.le_of_ble_eq_true rfl⟩ ⟨Nat.le_refl _, Nat.le_refl _⟩ hP hD hS [] rfl rfl hl rfl (Nat.le_of_ble_eq_true rfl) dX5_vial_21) hP hD hS [] rfl rfl rfl (fun H locs hP hD hS => ?_)
    refine lv_if_ne (tgt := 31) hx hb dX5_vial_24 (by decide) (fun c2 => ?_) (fun c2 => ?_)
    · refine lv_iload_n hx hb dX5_vial_31 rfl (lv_at hl 2 rfl) ?_
      refine lv_if_ne (tgt := 44) hx hb dX5_vial_32 (by decide) (fun c3 => ?_) (fun c3 => ?_)
      · refine lv_iload_n hx hb dX5_vial_44 rfl (lv_at hl 2 rfl) ?_
        refine lv_iconst (v := 1) hx hb dX5_vial_45 (by decide) ?_
        refine lv_icmp_ne (tgt := 58) hx hb dX5_vial_46 (by decide) (fun c4 => ?_) (fun c4 => ?_)
        · refine lv_iload_n hx hb dX5_vial_58 rfl (lv_at hl 2 rfl) ?_
          refine lv_iconst (v := 2) hx hb dX5_vial_59 (by decide) ?_
          refine lv_icmp_ne (tgt := 72) hx hb dX5_vial_60 (by decide) (fun c5 => ?_) (fun c5 => ?_)
          · refine lv_iload_n hx hb dX5_vial_72 rfl (lv_at hl 2 rfl) ?_
            refine lv_iconst (v := 3) hx hb dX5_vial_73 (by decide) ?_
            refine lv_icmp_ne (tgt := 86) hx hb dX5_vial_74 (by decide) (fun c6 => ?_) (fun c6 => ?_)
            · refine lv_iload_n hx hb dX5_vial_86 rfl (lv_at hl 2 rfl) ?_
              refine lv_iconst (v := 4) hx hb dX5_vial_87 (by decide) ?_
              refine lv_icmp_ne (tgt := 100) hx hb dX5_vial_88 (by decide) (fun c7 => ?_) (fun c7 => ?_)
              · refine lv_sipush (v := (-10002)) hx hb dX5_vial_100 (by decide) ?_
                exact hend _ _ _ _ _ (by rw [← hr, r_X5_vial, if_neg c1, if_neg c2, if_neg c3, if_neg c4, if_neg c5, if_neg c6, if_neg c7]) hP hS dX5_vial_103
              · refine lv_aload_n hx hb dX5_vial_91 rfl (lv_at hl 0 rfl) ?_
                refine kget (v := .ref (a 10)) C hP igX5 rfl 10 (by decide) wd_2_156 0 rfl rfl dX5_vial_92 ?_
                refine lv_iload_n hx hb dX5_vial_95 rfl (lv_at hl 1 rfl) ?_
                refine kald C hP 5 rfl (in_vial h1 hv c2) (k := (Int32.toNatClampNeg k)) rfl dX5_vial_96 ?_
                refine lv_goto (tgt := 103) hx hb dX5_vial_97 (by decide) ?_
                exact hend _ _ _ _ _ (by rw [← hr, r_X5_vial, if_neg c1, if_neg c2, if_neg c3, if_neg c4, if_neg c5, if_neg c6, if_pos c7]) hP hS dX5_vial_103
            · refine lv_aload_n hx hb dX5_vial_77 rfl (lv_at hl 0 rfl) ?_
              refine kget (v := .ref (a 9)) C hP igX5 rfl 9 (by decide) wd_2_155 0 rfl rfl dX5_vial_78 ?_
              refine lv_iload_n hx hb dX5_vial_81 rfl (lv_at hl 1 rfl) ?_
              refine kald C hP 4 rfl (in_vial h1 hv c2) (k := (Int32.toNatClampNeg k)) rfl dX5_vial_82 ?_
              refine lv_goto (tgt := 103) hx hb dX5_vial_83 (by decide) ?_
              exact hend _ _ _ _ _ (by rw [← hr, r_X5_vial, if_neg c1, if_neg c2, if_neg c3, if_neg c4, if_neg c5, if_pos c6]) hP hS dX5_vial_103
          · refine lv_aload_n hx hb dX5_vial_63 rfl (lv_at hl 0 rfl) ?_
            refine kget (v := .ref (a 8)) C hP igX5 rfl 8 (by decide) wd_2_154 0 rfl rfl dX5_vial_64 ?_
            refine lv_iload_n hx hb dX5_vial_67 rfl (lv_at hl 1 rfl) ?_
            refine kald C hP 3 rfl (in_vial h1 hv c2) (k := (Int32.toNatClampNeg k)) rfl dX5_vial_68 ?_
            refine lv_goto (tgt := 103) hx hb dX5_vial_69 (by decide) ?_
            exact hend _ _ _ _ _ (by rw [← hr, r_X5_vial, if_neg c1, if_neg c2, if_neg c3, if_neg c4, if_pos c5]) hP hS dX5_vial_103
        · refine lv_aload_n hx hb dX5_vial_49 rfl (lv_at hl 0 rfl) ?_
          refine kget (v := .ref (a 7)) C hP igX5 rfl 7 (by decide) wd_2_153 0 rfl rfl dX5_vial_50 ?_
          refine lv_iload_n hx hb dX5_vial_53 rfl (lv_at hl 1 rfl) ?_
          refine kald C hP 2 rfl (in_vial h1 hv c2) (k := (Int32.toNatClampNeg k)) rfl dX5_vial_54 ?_
          refine lv_goto (tgt := 103) hx hb dX5_vial_55 (by decide) ?_
          exact hend _ _ _ _ _ (by rw [← hr, r_X5_vial, if_neg c1, if_neg c2, if_neg c3, if_pos c4]) hP hS dX5_vial_103
      · refine lv_aload_n hx hb dX5_vial_35 rfl (lv_at hl 0 rfl) ?_
        refine kget (v := .ref (a 6)) C hP igX5 rfl 6 (by decide) wd_2_152 0 rfl rfl dX5_vial_36 ?_
        refine lv_iload_n hx hb dX5_vial_39 rfl (lv_at hl 1 rfl) ?_
        refine kald C hP 1 rfl (in_vial h1 hv c2) (k := (Int32.toNatClampNeg k)) rfl dX5_vial_40 ?_
        refine lv_goto (tgt := 103) hx hb dX5_vial_41 (by decide) ?_
        exact hend _ _ _ _ _ (by rw [← hr, r_X5_vial, if_neg c1, if_neg c2, if_pos c3]) hP hS dX5_vial_103
    · refine lv_sipush (v := (-10001)) hx hb dX5_vial_27 (by decide) ?_
      exact hend _ _ _ _ _ (by rw [← hr, r_X5_vial, if_neg c1, if_pos c2]) hP hS dX5_vial_30
  · refine lv_sipush (v := (-10003)) hx hb dX5_vial_7 (by decide) ?_
    exact hend _ _ _ _ _ (by rw [← hr, r_X5_vial, if_pos c1]) hP hS dX5_vial_10
def mg_X5_about_85 (fe : Nat → Int32) (i : Int32) : Int32 := (if (fe (Int32.toNatClampNeg i)) < 0 then 0 else 1)
noncomputable def lr_X5_about_58 (Y : Nat → Int32) (ic : Nat → Int32) (fe : Nat → Int32) (mn : Nat → Int32) (pr : Nat → Int32) (hg : Nat → Int32) (al : Nat → Int32) (sd : Nat → Int32) (wh : Int32) : Nat → (Int32) → (Int32) → (Int32) → (Int32)
  | 0, _, _, _ => 0
  | n + 1, su, fl, i => (if (r_X5_vials Y) ≤ i then (if wh = 0 then (mn 0) else (if wh = 1 then (pr 0) else (if wh = 2 then su else (if wh = 3 then (sd 0) else (if wh = 4 then (al 0) else (if wh = 5 then (hg 0) else (if wh = 6 then fl else ((r_X5_vials Y) - (r_X5_wetOf Y ic 0))))))))) else (lr_X5_about_58 Y ic fe mn pr hg al sd wh n (su + (ic (Int32.toNatClampNeg i))) (fl + (mg_X5_about_85 fe i)) (i + 1)))
noncomputable def r_X5_about (Y : Nat → Int32) (ic : Nat → Int32) (fe : Nat → Int32) (mn : Nat → Int32) (pr : Nat → Int32) (hg : Nat → Int32) (al : Nat → Int32) (sd : Nat → Int32) (wh : Int32) : Int32 := (if (r_X5_in (Int32.toInt64 wh) 0 9) = 0 then (-10002) else (if wh ≤ 7 then (if (Y 3) = 0 then (-10003) else (lr_X5_about_58 Y ic fe mn pr hg al sd wh (fu ((Int32.toInt (r_X5_vials Y)).toNat + 1)) 0 0 0)) else (if wh = 8 then (Y 4) else (Y 5))))
theorem ck_X5_about : CK yX5_about cX5_about 5 (some .int) 1 := ⟨wd_3_73, wd_1_7, by decide, by decide, by decide +kernel⟩
set_option maxHeartbeats 4000000 in
set_option maxRecDepth 100000 in
theorem c_X5_about (l : Launch) (D : va_G) (cI : ClassId) (a : Nat → Nat) (Y : Nat → Int32) (ic : Nat → Int32) (fe : Nat → Int32) (mn : Nat → Int32) (pr : Nat → Int32) (hg : Nat → Int32) (al : Nat → Int32) (sd : Nat → Int32) (wh : Int32) (hv : Int32.toInt (r_X5_vials Y) ≤ 24) : MI l D cI yX5_about cX5_about 5 (some .int) 2 43 [.ref (a 0), .int wh] [yc a Y, ac cI (a 6) 48 ic, ac cI (a 9) 48 fe, ac cI (a 11) 2 mn, ac cI (a 12) 2 pr, ac cI (a 13) 2 hg, ac cI (a 14) 2 al, ac cI (a 15) 2 sd] (r_X5_about Y ic fe mn pr hg al sd wh) [yc a Y, ac cI (a 6) 48 ic, ac cI (a 9) 48 fe, ac cI (a 11) 2 mn, ac cI (a 12) 2 pr, ac cI (a 13) 2 hg, ac cI (a 14) 2 al, ac cI (a 15) 2 sd] := by
  generalize hr : (r_X5_about Y ic fe mn pr hg al sd wh) = r
  refine MI.mk (own := RX5) rfl (by decide) rfl (Nat.le_of_ble_eq_true rfl) ?_
  intro p e s m args below meth c A Q C hD hend H locs ls hP hS hl
  have hx := C.1.1
  have hb := C.1.2.1
  have hl : lv_has ls 5 [(0, .ref (a 0)), (1, .int wh)] := hl
  refine lv_iload_n hx hb dX5_about_0 rfl (lv_at hl 1 rfl) ?_
  refine lv_i2l (v := (Int32.toInt64 wh)) hx hb dX5_about_1 rfl ?_
  refine lv_lconst (v := 0) hx hb dX5_about_2 (by decide) ?_
  refine kldc2 (v := 9) C wd_3_74 dX5_about_3 ?_
  refine go_i (ws' := [yc a Y, ac cI (a 6) 48 ic, ac cI (a 9) 48 fe, ac cI (a 11) 2 mn, ac cI (a 12) 2 pr, ac cI (a 13) 2 hg, ac cI (a 14) 2 al, ac cI (a 15) 2 sd]) C (rn_S (As := [.long (Int32.toInt64 wh), .long 0, .long 9]) (rest := []) C (c_X5_in l D cI (Int32.toInt64 wh) 0 9 H.size) ck_X5_in wd_2_216 wd_2_215 ⟨Nat.le_of_ble_eq_true rfl, Nat.le_of_ble_eq_true rfl⟩ ⟨Nat.le_refl _, Nat.le_refl _⟩ hP hD hS [] rfl rfl hl rfl (Nat.le_of_ble_eq_true rfl) dX5_about_6) hP hD hS [] rfl rfl rfl (fun H locs hP hD hS => ?_)
  refine lv_if_ne (tgt := 16) hx hb dX5_about_9 (by decide) (fun c1 => ?_) (fun c1 => ?_)
  · refine lv_iload_n hx hb dX5_about_16 rfl (lv_at hl 1 rfl) ?_
    refine lv_bipush (v := 7) hx hb dX5_about_17 (by decide) ?_
    refine lv_icmp_le (tgt := 40) hx hb dX5_about_19 (by decide) (fun c2 => ?_) (fun c2 => ?_)
    · refine lv_aload_n hx hb dX5_about_40 rfl (lv_at hl 0 rfl) ?_
      refine kget (v := .int (Y 3)) C hP igX5 rfl 3 (by decide) wd_2_149 0 rfl rfl dX5_about_41 ?_
      refine lv_if_ne (tgt := 51) hx hb dX5_about_44 (by decide) (fun c3 => ?_) (fun c3 => ?_)
      · refine lv_iconst (v := 0) hx hb dX5_about_51 (by decide) ?_
        refine lv_istore_n (lv' := [(2, .int 0), (0, .ref (a 0)), (1, .int wh)]) hx hb dX5_about_52 rfl hl (by decide) rfl (fun ls hl => ?_)
        refine lv_iconst (v := 0) hx hb dX5_about_53 (by decide) ?_
        refine lv_istore_n (lv' := [(3, .int 0), (2, .int 0), (0, .ref (a 0)), (1, .int wh)]) hx hb dX5_about_54 rfl hl (by decide) rfl (fun ls hl => ?_)
        refine lv_iconst (v := 0) hx hb dX5_about_55 (by decide) ?_
        refine lv_istore (lv' := [(4, .int 0), (3, .int 0), (2, .int 0), (0, .ref (a 0)), (1, .int wh)]) hx hb dX5_about_56 hl (by decide) rfl (fun ls hl => ?_)
        have lp58 : ∀ (n : Nat) (su : Int32) (fl : Int32) (i : Int32), 0 ≤ Int32.toInt i → (Int32.toInt (r_X5_vials Y) - Int32.toInt i).toNat < n → lr_X5_about_58 Y ic fe mn pr hg al sd wh n su fl i = r → ∀ (ls : Array Slot) (H : Heap) (locs : List Loc), lv_has ls 5 [(0, .ref (a 0)), (1, .int wh), (2, .int su), (3, .int fl), (4, .int i)] → va_P D vwCl [yc a Y, ac cI (a 6) 48 ic, ac cI (a 9) 48 fe, ac cI (a 11) 2 mn, ac cI (a 12) 2 pr, ac cI (a 13) 2 hg, ac cI (a 14) 2 al, ac cI (a 15) 2 sd] H → va_D A [yc a Y, ac cI (a 6) 48 ic, ac cI (a 9) 48 fe, ac cI (a 11) 2 mn, ac cI (a 12) 2 pr, ac cI (a 13) 2 hg, ac cI (a 14) 2 al, ac cI (a 15) 2 sd] → va_S A s.heap H locs → W p l e (RM 2 43) s m args below meth c H locs 0 0 Q (F0 m 58 ls []) := by
          clear hl hP hD hS
          intro n
          induction n with
          | zero =>
            intro su fl i h0 hm
            exact absurd hm (Nat.not_lt_zero _)
          | succ n ih =>
            intro su fl i h0 hm hr ls H locs hl hP hD hS
            refine lv_iload hx hb dX5_about_58 (lv_at hl 4 rfl) ?_
            refine lv_aload_n hx hb dX5_about_60 rfl (lv_at hl 0 rfl) ?_
            refine go_i (ws' := [yc a Y, ac cI (a 6) 48 ic, ac cI (a 9) 48 fe, ac cI (a 11) 2 mn, ac cI (a 12) 2 pr, ac cI (a 13) 2 hg, ac cI (a 14) 2 al, ac cI (a 15) 2 sd]) C (rn_V (As := []) (rest := [.int i]) C (c_X5_vials l D cI a Y H.size) ck_X5_vials wd_2_221 wd_0_5 wd_2_219 ⟨Nat.le_of_ble_eq_true rfl, Nat.le_of_ble_eq_true rfl⟩ ⟨Nat.le_refl _, Nat.le_refl _⟩ (ci := 5) (q0 := 0) rfl rfl hP hD hS [0] rfl rfl hl rfl (Nat.le_of_ble_eq_true rfl) dX5_about_61) hP hD hS [0] rfl rfl rfl (fun H locs hP hD hS => ?_)
            refine lv_icmp_ge (tgt := 101) hx hb dX5_about_64 (by decide) (fun c4 => ?_) (fun c4 => ?_)
            · refine lv_iload_n hx hb dX5_about_101 rfl (lv_at hl 1 rfl) ?_
              by_cases c5 : wh = 0
              · refine lv_tableIn (off := 42) (tgt := 144) hx hb dX5_about_102 (by rw [c5]; decide) (by rw [c5]; decide) (by rw [c5]; rfl) (by decide) ?_
                refine lv_aload_n hx hb dX5_about_144 rfl (lv_at hl 0 rfl) ?_
                refine kget (v := .ref (a 11)) C hP igX5 rfl 11 (by decide) wd_2_157 0 rfl rfl dX5_about_145 ?_
                refine lv_iconst (v := 0) hx hb dX5_about_148 (by decide) ?_
                refine kald C hP 3 rfl (vp_in_iff.mpr (by decide)) (k := 0) rfl dX5_about_149 ?_
                exact hend _ _ _ _ _ (by rw [← hr, lr_X5_about_58, if_pos c4, if_pos c5]) hP hS dX5_about_150
              · skip
                by_cases c6 : wh = 1
                · refine lv_tableIn (off := 49) (tgt := 151) hx hb dX5_about_102 (by rw [c6]; decide) (by rw [c6]; decide) (by rw [c6]; rfl) (by decide) ?_
                  refine lv_aload_n hx hb dX5_about_151 rfl (lv_at hl 0 rfl) ?_
                  refine kget (v := .ref (a 12)) C hP igX5 rfl 12 (by decide) wd_2_158 0 rfl rfl dX5_about_152 ?_
                  refine lv_iconst (v := 0) hx hb dX5_about_155 (by decide) ?_
                  refine kald C hP 4 rfl (vp_in_iff.mpr (by decide)) (k := 0) rfl dX5_about_156 ?_
                  exact hend _ _ _ _ _ (by rw [← hr, lr_X5_about_58, if_pos c4, if_neg c5, if_pos c6]) hP hS dX5_about_157
                · skip
                  by_cases c7 : wh = 2
                  · refine lv_tableIn (off := 56) (tgt := 158) hx hb dX5_about_102 (by rw [c7]; decide) (by rw [c7]; decide) (by rw [c7]; rfl) (by decide) ?_
                    refine lv_iload_n hx hb dX5_about_158 rfl (lv_at hl 2 rfl) ?_
                    exact hend _ _ _ _ _ (by rw [← hr, lr_X5_about_58, if_pos c4, if_neg c5, if_neg c6, if_pos c7]) hP hS dX5_about_159
                  · skip
                    by_cases c8 : wh = 3
                    · refine lv_tableIn (off := 58) (tgt := 160) hx hb dX5_about_102 (by rw [c8]; decide) (by rw [c8]; decide) (by rw [c8]; rfl) (by decide) ?_
                      refine lv_aload_n hx hb dX5_about_160 rfl (lv_at hl 0 rfl) ?_
                      refine kget (v := .ref (a 15)) C hP igX5 rfl 15 (by decide) wd_2_161 0 rfl rfl dX5_about_161 ?_
                      refine lv_iconst (v := 0) hx hb dX5_about_164 (by decide) ?_
                      refine kald C hP 7 rfl (vp_in_iff.mpr (by decide)) (k := 0) rfl dX5_about_165 ?_
                      exact hend _ _ _ _ _ (by rw [← hr, lr_X5_about_58, if_pos c4, if_neg c5, if_neg c6, if_neg c7, if_pos c8]) hP hS dX5_about_166
                    · skip
                      by_cases c9 : wh = 4
                      · refine lv_tableIn (off := 65) (tgt := 167) hx hb dX5_about_102 (by rw [c9]; decide) (by rw [c9]; decide) (by rw [c9]; rfl) (by decide) ?_
                        refine lv_aload_n hx hb dX5_about_167 rfl (lv_at hl 0 rfl) ?_
                        refine kget (v := .ref (a 14)) C hP igX5 rfl 14 (by decide) wd_2_160 0 rfl rfl dX5_about_168 ?_
                        refine lv_iconst (v := 0) hx hb dX5_about_171 (by decide) ?_
                        refine kald C hP 6 rfl (vp_in_iff.mpr (by decide)) (k := 0) rfl dX5_about_172 ?_
                        exact hend _ _ _ _ _ (by rw [← hr, lr_X5_about_58, if_pos c4, if_neg c5, if_neg c6, if_neg c7, if_neg c8, if_pos c9]) hP hS dX5_about_173
                      · skip
                        by_cases c10 : wh = 5
                        · refine lv_tableIn (off := 72) (tgt := 174) hx hb dX5_about_102 (by rw [c10]; decide) (by rw [c10]; decide) (by rw [c10]; rfl) (by decide) ?_
                          refine lv_aload_n hx hb dX5_about_174 rfl (lv_at hl 0 rfl) ?_
                          refine kget (v := .ref (a 13)) C hP igX5 rfl 13 (by decide) wd_2_159 0 rfl rfl dX5_about_175 ?_
                          refine lv_iconst (v := 0) hx hb dX5_about_178 (by decide) ?_
                          refine kald C hP 5 rfl (vp_in_iff.mpr (by decide)) (k := 0) rfl dX5_about_179 ?_
                          exact hend _ _ _ _ _ (by rw [← hr, lr_X5_about_58, if_pos c4, if_neg c5, if_neg c6, if_neg c7, if_neg c8, if_neg c9, if_pos c10]) hP hS dX5_about_180
                        · skip
                          by_cases c11 : wh = 6
                          · refine lv_tableIn (off := 79) (tgt := 181) hx hb dX5_about_102 (by rw [c11]; decide) (by rw [c11]; decide) (by rw [c11]; rfl) (by decide) ?_
                            refine lv_iload_n hx hb dX5_about_181 rfl (lv_at hl 3 rfl) ?_
                            exact hend _ _ _ _ _ (by rw [← hr, lr_X5_about_58, if_pos c4, if_neg c5, if_neg c6, if_neg c7, if_neg c8, if_neg c9, if_neg c10, if_pos c11]) hP hS dX5_about_182
                          · skip
                            refine lv_tableOut (tgt := 183) hx hb dX5_about_102 (ts_out (fun k h1 h2 => by rcases (by omega : k = 0 ∨ k = 1 ∨ k = 2 ∨ k = 3 ∨ k = 4 ∨ k = 5 ∨ k = 6) with rfl | rfl | rfl | rfl | rfl | rfl | rfl <;> assumption)) (by decide) ?_
                            refine lv_aload_n hx hb dX5_about_183 rfl (lv_at hl 0 rfl) ?_
                            refine go_i (ws' := [yc a Y, ac cI (a 6) 48 ic, ac cI (a 9) 48 fe, ac cI (a 11) 2 mn, ac cI (a 12) 2 pr, ac cI (a 13) 2 hg, ac cI (a 14) 2 al, ac cI (a 15) 2 sd]) C (rn_V (As := []) (rest := []) C (c_X5_vials l D cI a Y H.size) ck_X5_vials wd_2_221 wd_0_5 wd_2_219 ⟨Nat.le_of_ble_eq_true rfl, Nat.le_of_ble_eq_true rfl⟩ ⟨Nat.le_refl _, Nat.le_refl _⟩ (ci := 5) (q0 := 0) rfl rfl hP hD hS [0] rfl rfl hl rfl (Nat.le_of_ble_eq_true rfl) dX5_about_184) hP hD hS [0] rfl rfl rfl (fun H locs hP hD hS => ?_)
                            refine lv_aload_n hx hb dX5_about_187 rfl (lv_at hl 0 rfl) ?_
                            refine lv_iconst (v := 0) hx hb dX5_about_188 (by decide) ?_
                            refine go_i (ws' := [yc a Y, ac cI (a 6) 48 ic, ac cI (a 9) 48 fe, ac cI (a 11) 2 mn, ac cI (a 12) 2 pr, ac cI (a 13) 2 hg, ac cI (a 14) 2 al, ac cI (a 15) 2 sd]) C (rn_V (As := [.int 0]) (rest := [.int (r_X5_vials Y)]) C (c_X5_wetOf l D cI a Y ic 0 (Or.inl rfl) hv H.size) ck_X5_wetOf wd_3_60 wd_0_12 wd_3_58 ⟨Nat.le_of_ble_eq_true rfl, Nat.le_of_ble_eq_true rfl⟩ ⟨Nat.le_refl _, Nat.le_refl _⟩ (ci := 5) (q0 := 0) rfl rfl hP hD hS [0, 1] rfl rfl hl rfl (Nat.le_of_ble_eq_true rfl) dX5_about_189) hP hD hS [0, 1] rfl rfl rfl (fun H locs hP hD hS => ?_)
                            refine lv_isub hx hb dX5_about_192 ?_
                            exact hend _ _ _ _ _ (by rw [← hr, lr_X5_about_58, if_pos c4, if_neg c5, if_neg c6, if_neg c7, if_neg c8, if_neg c9, if_neg c10, if_neg c11]) hP hS dX5_about_193
            · refine lv_iload_n hx hb dX5_about_67 rfl (lv_at hl 2 rfl) ?_
              refine lv_aload_n hx hb dX5_about_68 rfl (lv_at hl 0 rfl) ?_
              refine kget (v := .ref (a 6)) C hP igX5 rfl 6 (by decide) wd_2_152 0 rfl rfl dX5_about_69 ?_
              refine lv_iload hx hb dX5_about_72 (lv_at hl 4 rfl) ?_
              refine kald C hP 1 rfl (in_to48 (inV h0 hv c4)) (k := (Int32.toNatClampNeg i)) rfl dX5_about_74 ?_
              refine lv_iadd hx hb dX5_about_75 ?_
              refine lv_istore_n (lv' := [(2, .int (su + (ic (Int32.toNatClampNeg i)))), (0, .ref (a 0)), (1, .int wh), (3, .int fl), (4, .int i)]) hx hb dX5_about_76 rfl hl (by decide) rfl (fun ls hl => ?_)
              refine lv_iload_n hx hb dX5_about_77 rfl (lv_at hl 3 rfl) ?_
              refine lv_aload_n hx hb dX5_about_78 rfl (lv_at hl 1 rfl) ?_
              refine kget (v := .ref (a 9)) C hP igX5 rfl 9 (by decide) wd_2_155 0 rfl rfl dX5_about_79 ?_
              refine lv_iload hx hb dX5_about_82 (lv_at hl 4 rfl) ?_
              refine kald C hP 2 rfl (in_to48 (inV h0 hv c4)) (k := (Int32.toNatClampNeg i)) rfl dX5_about_84 ?_
              have j93 : ∀ (ls : Array Slot) (H : Heap) (locs : List Loc), lv_has ls 5 [(0, .ref (a 0)), (1, .int wh), (2, .int (su + (ic (Int32.toNatClampNeg i)))), (3, .int fl), (4, .int i)] → va_P D vwCl [yc a Y, ac cI (a 6) 48 ic, ac cI (a 9) 48 fe, ac cI (a 11) 2 mn, ac cI (a 12) 2 pr, ac cI (a 13) 2 hg, ac cI (a 14) 2 al, ac cI (a 15) 2 sd] H → va_D A [yc a Y, ac cI (a 6) 48 ic, ac cI (a 9) 48 fe, ac cI (a 11) 2 mn, ac cI (a 12) 2 pr, ac cI (a 13) 2 hg, ac cI (a 14) 2 al, ac cI (a 15) 2 sd] → va_S A s.heap H locs → W p l e (RM 2 43) s m args below meth c H locs 0 0 Q (F0 m 93 ls [.int (mg_X5_about_85 fe i), .int fl]) := by
                intro ls H locs hl hP hD hS
                refine lv_iadd hx hb dX5_about_93 ?_
                refine lv_istore_n (lv' := [(3, .int (fl + (mg_X5_about_85 fe i))), (0, .ref (a 0)), (1, .int wh), (2, .int (su + (ic (Int32.toNatClampNeg i)))), (4, .int i)]) hx hb dX5_about_94 rfl hl (by decide) rfl (fun ls hl => ?_)
                refine lv_iinc (v := (i + 1)) (lv' := [(4, .int (i + 1)), (3, .int (fl + (mg_X5_about_85 fe i))), (0, .ref (a 0)), (1, .int wh), (2, .int (su + (ic (Int32.toNatClampNeg i))))]) hx hb dX5_about_95 hl (k := 4) rfl rfl (by decide) rfl (fun ls hl => ?_)
                refine lv_goto (tgt := 58) hx hb dX5_about_98 (by decide) ?_
                exact ih (su + (ic (Int32.toNatClampNeg i))) (fl + (mg_X5_about_85 fe i)) (i + 1) (inc0 h0 c4) (cnt2_lt c4 hm) (by rw [← hr, lr_X5_about_58, if_neg c4]) ls H locs (lv_sub hl [2, 3, 4, 1, 0] rfl) hP hD hS
              refine lv_if_lt (tgt := 92) hx hb dX5_about_85 (by decide) (fun c12 => ?_) (fun c12 => ?_)
              · refine lv_iconst (v := 0) hx hb dX5_about_92 (by decide) ?_
                have e_mg_X5_about_85 : (mg_X5_about_85 fe i) = 0 := by rw [mg_X5_about_85, if_pos c12]
                have jj := j93
                rw [e_mg_X5_about_85] at jj
                exact jj ls H locs (lv_sub hl [1, 2, 0, 3, 4] rfl) hP hD hS
              · refine lv_iconst (v := 1) hx hb dX5_about_88 (by decide) ?_
                refine lv_goto (tgt := 93) hx hb dX5_about_89 (by decide) ?_
                have e_mg_X5_about_85 : (mg_X5_about_85 fe i) = 1 := by rw [mg_X5_about_85, if_neg c12]
                have jj := j93
                rw [e_mg_X5_about_85] at jj
                exact jj ls H locs (lv_sub hl [1, 2, 0, 3, 4] rfl) hP hD hS
        exact lp58 (fu ((Int32.toInt (r_X5_vials Y)).toNat + 1)) 0 0 0 (by decide) (by rw [fu_eq]; have e0 : (0 : Int32).toInt = 0 := rfl; omega) (by rw [← hr, r_X5_about, if_neg c1, if_pos c2, if_neg c3]) ls H locs (lv_sub hl [3, 4, 2, 1, 0] rfl) hP hD hS
      · refine lv_sipush (v := (-10003)) hx hb dX5_about_47 (by decide) ?_
        exact hend _ _ _ _ _ (by rw [← hr, r_X5_about, if_neg c1, if_pos c2, if_pos c3]) hP hS dX5_about_50
    · refine lv_iload_n hx hb dX5_about_22 rfl (lv_at hl 1 rfl) ?_
      refine lv_bipush (v := 8) hx hb dX5_about_23 (by decide) ?_
      refine lv_icmp_ne (tgt := 35) hx hb dX5_about_25 (by decide) (fun c13 => ?_) (fun c13 => ?_)
      · refine lv_aload_n hx hb dX5_about_35 rfl (lv_at hl 0 rfl) ?_
        refine kget (v := .int (Y 5)) C hP igX5 rfl 5 (by decide) wd_2_151 0 rfl rfl dX5_about_36 ?_
        exact hend _ _ _ _ _ (by rw [← hr, r_X5_about, if_neg c1, if_neg c2, if_neg c13]) hP hS dX5_about_39
      · refine lv_aload_n hx hb dX5_about_28 rfl (lv_at hl 0 rfl) ?_
        refine kget (v := .int (Y 4)) C hP igX5 rfl 4 (by decide) wd_2_150 0 rfl rfl dX5_about_29 ?_
        refine lv_goto (tgt := 39) hx hb dX5_about_32 (by decide) ?_
        exact hend _ _ _ _ _ (by rw [← hr, r_X5_about, if_neg c1, if_neg c2, if_pos c13]) hP hS dX5_about_39
  · refine lv_sipush (v := (-10002)) hx hb dX5_about_12 (by decide) ?_
    exact hend _ _ _ _ _ (by rw [← hr, r_X5_about, if_pos c1]) hP hS dX5_about_15
def r_X5_gauge (Y : Nat → Int32) (mn : Nat → Int32) (on : Nat → Int32) (ot : Nat → Int32) (mi : Int32) (wh : Int32) : Int32 := (if (Y 3) = 0 then (-3) else (if (r_X5_in (Int32.toInt64 mi) 1 (Int32.toInt64 (mn 0))) = 0 then (-1) else (if wh = 0 then (on (Int32.toNatClampNeg mi)) else (if wh = 1 then (ot (Int32.toNatClampNeg mi)) else (-2)))))
theorem ck_X5_gauge : CK yX5_gauge cX5_gauge 3 (some .int) 2 := ⟨wd_3_78, wd_1_7, by decide, by decide, by decide +kernel⟩
set_option maxHeartbeats 4000000 in
set_option maxRecDepth 100000 in
theorem c_X5_gauge (l : Launch) (D : va_G) (cI : ClassId) (a : Nat → Nat) (Y : Nat → Int32) (mn : Nat → Int32) (on : Nat → Int32) (ot : Nat → Int32) (mi : Int32) (wh : Int32) (hm2 : Int32.toInt (mn 0) ≤ 2000) : MI l D cI yX5_gauge cX5_gauge 3 (some .int) 1 25 [.ref (a 0), .int mi, .int wh] [yc a Y, ac cI (a 11) 2 mn, ac cI (a 16) 2001 on, ac cI (a 17) 2001 ot] (r_X5_gauge Y mn on ot mi wh) [yc a Y, ac cI (a 11) 2 mn, ac cI (a 16) 2001 on, ac cI (a 17) 2001 ot] := by
  generalize hr : (r_X5_gauge Y mn on ot mi wh) = r
  refine MI.mk (own := RX5) rfl (by decide) rfl (Nat.le_of_ble_eq_true rfl) ?_
  intro p e s m args below meth c A Q C hD hend H locs ls hP hS hl
  have hx := C.1.1
  have hb := C.1.2.1
  have hl : lv_has ls 3 [(0, .ref (a 0)), (1, .int mi), (2, .int wh)] := hl
  refine lv_aload_n hx hb dX5_gauge_0 rfl (lv_at hl 0 rfl) ?_
  refine kget (v := .int (Y 3)) C hP igX5 rfl 3 (by decide) wd_2_149 0 rfl rfl dX5_gauge_1 ?_
  refine lv_if_ne (tgt := 10) hx hb dX5_gauge_4 (by decide) (fun c1 => ?_) (fun c1 => ?_)
  · refine lv_iload_n hx hb dX5_gauge_10 rfl (lv_at hl 1 rfl) ?_
    refine lv_i2l (v := (Int32.toInt64 mi)) hx hb dX5_gauge_11 rfl ?_
    refine lv_lconst (v := 1) hx hb dX5_gauge_12 (by decide) ?_
    refine lv_aload_n hx hb dX5_gauge_13 rfl (lv_at hl 0 rfl) ?_
    refine kget (v := .ref (a 11)) C hP igX5 rfl 11 (by decide) wd_2_157 0 rfl rfl dX5_gauge_14 ?_
    refine lv_iconst (v := 0) hx hb dX5_gauge_17 (by decide) ?_
    refine kald C hP 1 rfl (vp_in_iff.mpr (by decide)) (k := 0) rfl dX5_gauge_18 ?_
    refine lv_i2l (v := (Int32.toInt64 (mn 0))) hx hb dX5_gauge_19 rfl ?_
    refine go_i (ws' := [yc a Y, ac cI (a 11) 2 mn, ac cI (a 16) 2001 on, ac cI (a 17) 2001 ot]) C (rn_S (As := [.long (Int32.toInt64 mi), .long 1, .long (Int32.toInt64 (mn 0))]) (rest := []) C (c_X5_in l D cI (Int32.toInt64 mi) 1 (Int32.toInt64 (mn 0)) H.size) ck_X5_in wd_2_216 wd_2_215 ⟨Nat.le_of_ble_eq_true rfl, Nat.le_of_ble_eq_true rfl⟩ ⟨Nat.le_refl _, Nat.le_refl _⟩ hP hD hS [] rfl rfl hl rfl (Nat.le_of_ble_eq_true rfl) dX5_gauge_20) hP hD hS [] rfl rfl rfl (fun H locs hP hD hS => ?_)
    refine lv_if_ne (tgt := 28) hx hb dX5_gauge_23 (by decide) (fun c2 => ?_) (fun c2 => ?_)
    · refine lv_iload_n hx hb dX5_gauge_28 rfl (lv_at hl 2 rfl) ?_
      refine lv_if_ne (tgt := 41) hx hb dX5_gauge_29 (by decide) (fun c3 => ?_) (fun c3 => ?_)
      · refine lv_iload_n hx hb dX5_gauge_41 rfl (lv_at hl 2 rfl) ?_
        refine lv_iconst (v := 1) hx hb dX5_gauge_42 (by decide) ?_
        refine lv_icmp_ne (tgt := 55) hx hb dX5_gauge_43 (by decide) (fun c4 => ?_) (fun c4 => ?_)
        · refine lv_bipush (v := (-2)) hx hb dX5_gauge_55 (by decide) ?_
          exact hend _ _ _ _ _ (by rw [← hr, r_X5_gauge, if_neg c1, if_neg c2, if_neg c3, if_neg c4]) hP hS dX5_gauge_57
        · refine lv_aload_n hx hb dX5_gauge_46 rfl (lv_at hl 0 rfl) ?_
          refine kget (v := .ref (a 17)) C hP igX5 rfl 17 (by decide) wd_2_163 0 rfl rfl dX5_gauge_47 ?_
          refine lv_iload_n hx hb dX5_gauge_50 rfl (lv_at hl 1 rfl) ?_
          refine kald C hP 3 rfl (in_min1 hm2 c2) (k := (Int32.toNatClampNeg mi)) rfl dX5_gauge_51 ?_
          refine lv_goto (tgt := 57) hx hb dX5_gauge_52 (by decide) ?_
          exact hend _ _ _ _ _ (by rw [← hr, r_X5_gauge, if_neg c1, if_neg c2, if_neg c3, if_pos c4]) hP hS dX5_gauge_57
      · refine lv_aload_n hx hb dX5_gauge_32 rfl (lv_at hl 0 rfl) ?_
        refine kget (v := .ref (a 16)) C hP igX5 rfl 16 (by decide) wd_2_162 0 rfl rfl dX5_gauge_33 ?_
        refine lv_iload_n hx hb dX5_gauge_36 rfl (lv_at hl 1 rfl) ?_
        refine kald C hP 2 rfl (in_min1 hm2 c2) (k := (Int32.toNatClampNeg mi)) rfl dX5_gauge_37 ?_
        refine lv_goto (tgt := 57) hx hb dX5_gauge_38 (by decide) ?_
        exact hend _ _ _ _ _ (by rw [← hr, r_X5_gauge, if_neg c1, if_neg c2, if_pos c3]) hP hS dX5_gauge_57
    · refine lv_iconst (v := (-1)) hx hb dX5_gauge_26 (by decide) ?_
      exact hend _ _ _ _ _ (by rw [← hr, r_X5_gauge, if_neg c1, if_pos c2]) hP hS dX5_gauge_27
  · refine lv_bipush (v := (-3)) hx hb dX5_gauge_7 (by decide) ?_
    exact hend _ _ _ _ _ (by rw [← hr, r_X5_gauge, if_pos c1]) hP hS dX5_gauge_9
def mg_X5_end_69 (on : Nat → Int32) (ot : Nat → Int32) (to : Int32) (tg : Int32) (mi : Int32) : Int32 := (if to < ((ot (Int32.toNatClampNeg mi)) - (on (Int32.toNatClampNeg mi))) then 0 else (tg + 1))
def lr_X5_end_42 (mn : Nat → Int32) (on : Nat → Int32) (ot : Nat → Int32) (to : Int32) (hd : Int32) : Nat → (Int32) → (Int32) → (Int32)
  | 0, _, _ => 0
  | n + 1, tg, mi => (if (mn 0) < mi then (-6) else (if (mg_X5_end_69 on ot to tg mi) = hd then mi else (lr_X5_end_42 mn on ot to hd n (mg_X5_end_69 on ot to tg mi) (mi + 1))))
noncomputable def r_X5_end (Y : Nat → Int32) (mn : Nat → Int32) (on : Nat → Int32) (ot : Nat → Int32) (to : Int32) (hd : Int32) : Int32 := (if (r_X5_in (Int32.toInt64 to) 0 100) = 0 then (-2) else (if (r_X5_in (Int32.toInt64 hd) 1 60) = 0 then (-2) else (if (Y 3) = 0 then (-3) else (lr_X5_end_42 mn on ot to hd (fu ((Int32.toInt (mn 0)).toNat + 1)) 0 1))))
theorem ck_X5_end : CK yX5_end cX5_end 5 (some .int) 2 := ⟨wd_3_82, wd_1_7, by decide, by decide, by decide +kernel⟩
set_option maxHeartbeats 4000000 in
set_option maxRecDepth 100000 in
theorem c_X5_end (l : Launch) (D : va_G) (cI : ClassId) (a : Nat → Nat) (Y : Nat → Int32) (mn : Nat → Int32) (on : Nat → Int32) (ot : Nat → Int32) (to : Int32) (hd : Int32) (hm2 : Int32.toInt (mn 0) ≤ 2000) : MI l D cI yX5_end cX5_end 5 (some .int) 1 25 [.ref (a 0), .int to, .int hd] [yc a Y, ac cI (a 11) 2 mn, ac cI (a 16) 2001 on, ac cI (a 17) 2001 ot] (r_X5_end Y mn on ot to hd) [yc a Y, ac cI (a 11) 2 mn, ac cI (a 16) 2001 on, ac cI (a 17) 2001 ot] := by
  generalize hr : (r_X5_end Y mn on ot to hd) = r
  refine MI.mk (own := RX5) rfl (by decide) rfl (Nat.le_of_ble_eq_true rfl) ?_
  intro p e s m args below meth c A Q C hD hend H locs ls hP hS hl
  have hx := C.1.1
  have hb := C.1.2.1
  have hl : lv_has ls 5 [(0, .ref (a 0)), (1, .int to), (2, .int hd)] := hl
  refine lv_iload_n hx hb dX5_end_0 rfl (lv_at hl 1 rfl) ?_
  refine lv_i2l (v := (Int32.toInt64 to)) hx hb dX5_end_1 rfl ?_
  refine lv_lconst (v := 0) hx hb dX5_end_2 (by decide) ?_
  refine kldc2 (v := 100) C wd_3_9 dX5_end_3 ?_
  refine go_i (ws' := [yc a Y, ac cI (a 11) 2 mn, ac cI (a 16) 2001 on, ac cI (a 17) 2001 ot]) C (rn_S (As := [.long (Int32.toInt64 to), .long 0, .long 100]) (rest := []) C (c_X5_in l D cI (Int32.toInt64 to) 0 100 H.size) ck_X5_in wd_2_216 wd_2_215 ⟨Nat.le_of_ble_eq_true rfl, Nat.le_of_ble_eq_true rfl⟩ ⟨Nat.le_refl _, Nat.le_refl _⟩ hP hD hS [] rfl rfl hl rfl (Nat.le_of_ble_eq_true rfl) dX5_end_6) hP hD hS [] rfl rfl rfl (fun H locs hP hD hS => ?_)
  refine lv_if_eq (tgt := 24) hx hb dX5_end_9 (by decide) (fun c1 => ?_) (fun c1 => ?_)
  · refine lv_bipush (v := (-2)) hx hb dX5_end_24 (by decide) ?_
    exact hend _ _ _ _ _ (by rw [← hr, r_X5_end, if_pos c1]) hP hS dX5_end_26
  · refine lv_iload_n hx hb dX5_end_12 rfl (lv_at hl 2 rfl) ?_
    refine lv_i2l (v := (Int32.toInt64 hd)) hx hb dX5_end_13 rfl ?_
    refine lv_lconst (v := 1) hx hb dX5_end_14 (by decide) ?_
    refine kldc2 (v := 60) C wd_3_83 dX5_end_15 ?_
    refine go_i (ws' := [yc a Y, ac cI (a 11) 2 mn, ac cI (a 16) 2001 on, ac cI (a 17) 2001 ot]) C (rn_S (As := [.long (Int32.toInt64 hd), .long 1, .long 60]) (rest := []) C (c_X5_in l D cI (Int32.toInt64 hd) 1 60 H.size) ck_X5_in wd_2_216 wd_2_215 ⟨Nat.le_of_ble_eq_true rfl, Nat.le_of_ble_eq_true rfl⟩ ⟨Nat.le_refl _, Nat.le_refl _⟩ hP hD hS [] rfl rfl hl rfl (Nat.le_of_ble_eq_true rfl) dX5_end_18) hP hD hS [] rfl rfl rfl (fun H locs hP hD hS => ?_)
    refine lv_if_ne (tgt := 27) hx hb dX5_end_21 (by decide) (fun c2 => ?_) (fun c2 => ?_)
    · refine lv_aload_n hx hb dX5_end_27 rfl (lv_at hl 0 rfl) ?_
      refine kget (v := .int (Y 3)) C hP igX5 rfl 3 (by decide) wd_2_149 0 rfl rfl dX5_end_28 ?_
      refine lv_if_ne (tgt := 37) hx hb dX5_end_31 (by decide) (fun c3 => ?_) (fun c3 => ?_)
      · refine lv_iconst (v := 0) hx hb dX5_end_37 (by decide) ?_
        refine lv_istore_n (lv' := [(3, .int 0), (0, .ref (a 0)), (1, .int to), (2, .int hd)]) hx hb dX5_end_38 rfl hl (by decide) rfl (fun ls hl => ?_)
        refine lv_iconst (v := 1) hx hb dX5_end_39 (by decide) ?_
        refine lv_istore (lv' := [(4, .int 1), (3, .int 0), (0, .ref (a 0)), (1, .int to), (2, .int hd)]) hx hb dX5_end_40 hl (by decide) rfl (fun ls hl => ?_)
        have lp42 : ∀ (n : Nat) (tg : Int32) (mi : Int32), 1 ≤ Int32.toInt mi → (Int32.toInt (mn 0) + 1 - Int32.toInt mi).toNat < n → lr_X5_end_42 mn on ot to hd n tg mi = r → ∀ (ls : Array Slot) (H : Heap) (locs : List Loc), lv_has ls 5 [(0, .ref (a 0)), (1, .int to), (2, .int hd), (3, .int tg), (4, .int mi)] → va_P D vwCl [yc a Y, ac cI (a 11) 2 mn, ac cI (a 16) 2001 on, ac cI (a 17) 2001 ot] H → va_D A [yc a Y, ac cI (a 11) 2 mn, ac cI (a 16) 2001 on, ac cI (a 17) 2001 ot] → va_S A s.heap H locs → W p l e (RM 1 25) s m args below meth c H locs 0 0 Q (F0 m 42 ls []) := by
          clear hl hP hD hS
          intro n
          induction n with
          | zero =>
            intro tg mi h0 hm
            exact absurd hm (Nat.not_lt_zero _)
          | succ n ih =>
            intro tg mi h0 hm hr ls H locs hl hP hD hS
            refine lv_iload hx hb dX5_end_42 (lv_at hl 4 rfl) ?_
            refine lv_aload_n hx hb dX5_end_44 rfl (lv_at hl 0 rfl) ?_
            refine kget (v := .ref (a 11)) C hP igX5 rfl 11 (by decide) wd_2_157 0 rfl rfl dX5_end_45 ?_
            refine lv_iconst (v := 0) hx hb dX5_end_48 (by decide) ?_
            refine kald C hP 1 rfl (vp_in_iff.mpr (by decide)) (k := 0) rfl dX5_end_49 ?_
            refine lv_icmp_gt (tgt := 94) hx hb dX5_end_50 (by decide) (fun c4 => ?_) (fun c4 => ?_)
            · refine lv_bipush (v := (-6)) hx hb dX5_end_94 (by decide) ?_
              exact hend _ _ _ _ _ (by rw [← hr, lr_X5_end_42, if_pos c4]) hP hS dX5_end_96
            · refine lv_aload_n hx hb dX5_end_53 rfl (lv_at hl 0 rfl) ?_
              refine kget (v := .ref (a 17)) C hP igX5 rfl 17 (by decide) wd_2_163 0 rfl rfl dX5_end_54 ?_
              refine lv_iload hx hb dX5_end_57 (lv_at hl 4 rfl) ?_
              refine kald C hP 3 rfl (in_end hm2 h0 c4) (k := (Int32.toNatClampNeg mi)) rfl dX5_end_59 ?_
              refine lv_aload_n hx hb dX5_end_60 rfl (lv_at hl 0 rfl) ?_
              refine kget (v := .ref (a 16)) C hP igX5 rfl 16 (by decide) wd_2_162 0 rfl rfl dX5_end_61 ?_
              refine lv_iload hx hb dX5_end_64 (lv_at hl 4 rfl) ?_
              refine kald C hP 2 rfl (in_end hm2 h0 c4) (k := (Int32.toNatClampNeg mi)) rfl dX5_end_66 ?_
              refine lv_isub hx hb dX5_end_67 ?_
              refine lv_iload_n hx hb dX5_end_68 rfl (lv_at hl 1 rfl) ?_
              have j79 : ∀ (ls : Array Slot) (H : Heap) (locs : List Loc), lv_has ls 5 [(0, .ref (a 0)), (1, .int to), (2, .int hd), (3, .int tg), (4, .int mi)] → va_P D vwCl [yc a Y, ac cI (a 11) 2 mn, ac cI (a 16) 2001 on, ac cI (a 17) 2001 ot] H → va_D A [yc a Y, ac cI (a 11) 2 mn, ac cI (a 16) 2001 on, ac cI (a 17) 2001 ot] → va_S A s.heap H locs → W p l e (RM 1 25) s m args below meth c H locs 0 0 Q (F0 m 79 ls [.int (mg_X5_end_69 on ot to tg mi)]) := by
                intro ls H locs hl hP hD hS
                refine lv_istore_n (lv' := [(3, .int (mg_X5_end_69 on ot to tg mi)), (0, .ref (a 0)), (1, .int to), (2, .int hd), (4, .int mi)]) hx hb dX5_end_79 rfl hl (by decide) rfl (fun ls hl => ?_)
                refine lv_iload_n hx hb dX5_end_80 rfl (lv_at hl 0 rfl) ?_
                refine lv_iload_n hx hb dX5_end_81 rfl (lv_at hl 3 rfl) ?_
                refine lv_icmp_ne (tgt := 88) hx hb dX5_end_82 (by decide) (fun c6 => ?_) (fun c6 => ?_)
                · refine lv_iinc (v := (mi + 1)) (lv' := [(4, .int (mi + 1)), (3, .int (mg_X5_end_69 on ot to tg mi)), (0, .ref (a 0)), (1, .int to), (2, .int hd)]) hx hb dX5_end_88 hl (k := 4) rfl rfl (by decide) rfl (fun ls hl => ?_)
                  refine lv_goto (tgt := 42) hx hb dX5_end_91 (by decide) ?_
                  exact ih (mg_X5_end_69 on ot to tg mi) (mi + 1) (inc_end hm2 h0 c4) (cnt_lt (by omega) c4 hm) (by rw [← hr, lr_X5_end_42, if_neg c4, if_neg c6]) ls H locs (lv_sub hl [2, 3, 4, 1, 0] rfl) hP hD hS
                · refine lv_iload hx hb dX5_end_85 (lv_at hl 4 rfl) ?_
                  exact hend _ _ _ _ _ (by rw [← hr, lr_X5_end_42, if_neg c4, if_pos c6]) hP hS dX5_end_87
              refine lv_icmp_gt (tgt := 78) hx hb dX5_end_69 (by decide) (fun c5 => ?_) (fun c5 => ?_)
              · refine lv_iconst (v := 0) hx hb dX5_end_78 (by decide) ?_
                have e_mg_X5_end_69 : (mg_X5_end_69 on ot to tg mi) = 0 := by rw [mg_X5_end_69, if_pos c5]
                have jj := j79
                rw [e_mg_X5_end_69] at jj
                exact jj ls H locs (lv_sub hl [0, 1, 2, 3, 4] rfl) hP hD hS
              · refine lv_iload_n hx hb dX5_end_72 rfl (lv_at hl 3 rfl) ?_
                refine lv_iconst (v := 1) hx hb dX5_end_73 (by decide) ?_
                refine lv_iadd hx hb dX5_end_74 ?_
                refine lv_goto (tgt := 79) hx hb dX5_end_75 (by decide) ?_
                have e_mg_X5_end_69 : (mg_X5_end_69 on ot to tg mi) = (tg + 1) := by rw [mg_X5_end_69, if_neg c5]
                have jj := j79
                rw [e_mg_X5_end_69] at jj
                exact jj ls H locs (lv_sub hl [0, 1, 2, 3, 4] rfl) hP hD hS
        exact lp42 (fu ((Int32.toInt (mn 0)).toNat + 1)) 0 1 (by decide) (by rw [fu_eq]; have e1 : (1 : Int32).toInt = 1 := rfl; omega) (by rw [← hr, r_X5_end, if_neg c1, if_neg c2, if_neg c3]) ls H locs (lv_sub hl [2, 3, 4, 1, 0] rfl) hP hD hS
      · refine lv_bipush (v := (-3)) hx hb dX5_end_34 (by decide) ?_
        exact hend _ _ _ _ _ (by rw [← hr, r_X5_end, if_neg c1, if_neg c2, if_pos c3]) hP hS dX5_end_36
    · refine lv_bipush (v := (-2)) hx hb dX5_end_24 (by decide) ?_
      exact hend _ _ _ _ _ (by rw [← hr, r_X5_end, if_neg c1, if_pos c2]) hP hS dX5_end_26
def r_X5_wet (Y : Nat → Int32) (mn : Nat → Int32) (we : Nat → Int32) (mi : Int32) : Int32 := (if (Y 3) = 0 then (-3) else (if (r_X5_in (Int32.toInt64 mi) 0 (Int32.toInt64 (mn 0))) = 0 then (-1) else (we (Int32.toNatClampNeg mi))))
theorem ck_X5_wet : CK yX5_wet cX5_wet 2 (some .int) 1 := ⟨wd_3_87, wd_1_7, by decide, by decide, by decide +kernel⟩
set_option maxHeartbeats 4000000 in
set_option maxRecDepth 100000 in
theorem c_X5_wet (l : Launch) (D : va_G) (cI : ClassId) (a : Nat → Nat) (Y : Nat → Int32) (mn : Nat → Int32) (we : Nat → Int32) (mi : Int32) (hm2 : Int32.toInt (mn 0) ≤ 2000) : MI l D cI yX5_wet cX5_wet 2 (some .int) 1 25 [.ref (a 0), .int mi] [yc a Y, ac cI (a 11) 2 mn, ac cI (a 18) 2001 we] (r_X5_wet Y mn we mi) [yc a Y, ac cI (a 11) 2 mn, ac cI (a 18) 2001 we] := by
  generalize hr : (r_X5_wet Y mn we mi) = r
  refine MI.mk (own := RX5) rfl (by decide) rfl (Nat.le_of_ble_eq_true rfl) ?_
  intro p e s m args below meth c A Q C hD hend H locs ls hP hS hl
  have hx := C.1.1
  have hb := C.1.2.1
  have hl : lv_has ls 2 [(0, .ref (a 0)), (1, .int mi)] := hl
  refine lv_aload_n hx hb dX5_wet_0 rfl (lv_at hl 0 rfl) ?_
  refine kget (v := .int (Y 3)) C hP igX5 rfl 3 (by decide) wd_2_149 0 rfl rfl dX5_wet_1 ?_
  refine lv_if_ne (tgt := 10) hx hb dX5_wet_4 (by decide) (fun c1 => ?_) (fun c1 => ?_)
  · refine lv_iload_n hx hb dX5_wet_10 rfl (lv_at hl 1 rfl) ?_
    refine lv_i2l (v := (Int32.toInt64 mi)) hx hb dX5_wet_11 rfl ?_
    refine lv_lconst (v := 0) hx hb dX5_wet_12 (by decide) ?_
    refine lv_aload_n hx hb dX5_wet_13 rfl (lv_at hl 0 rfl) ?_
    refine kget (v := .ref (a 11)) C hP igX5 rfl 11 (by decide) wd_2_157 0 rfl rfl dX5_wet_14 ?_
    refine lv_iconst (v := 0) hx hb dX5_wet_17 (by decide) ?_
    refine kald C hP 1 rfl (vp_in_iff.mpr (by decide)) (k := 0) rfl dX5_wet_18 ?_
    refine lv_i2l (v := (Int32.toInt64 (mn 0))) hx hb dX5_wet_19 rfl ?_
    refine go_i (ws' := [yc a Y, ac cI (a 11) 2 mn, ac cI (a 18) 2001 we]) C (rn_S (As := [.long (Int32.toInt64 mi), .long 0, .long (Int32.toInt64 (mn 0))]) (rest := []) C (c_X5_in l D cI (Int32.toInt64 mi) 0 (Int32.toInt64 (mn 0)) H.size) ck_X5_in wd_2_216 wd_2_215 ⟨Nat.le_of_ble_eq_true rfl, Nat.le_of_ble_eq_true rfl⟩ ⟨Nat.le_refl _, Nat.le_refl _⟩ hP hD hS [] rfl rfl hl rfl (Nat.le_of_ble_eq_true rfl) dX5_wet_20) hP hD hS [] rfl rfl rfl (fun H locs hP hD hS => ?_)
    refine lv_if_eq (tgt := 35) hx hb dX5_wet_23 (by decide) (fun c2 => ?_) (fun c2 => ?_)
    · refine lv_iconst (v := (-1)) hx hb dX5_wet_35 (by decide) ?_
      exact hend _ _ _ _ _ (by rw [← hr, r_X5_wet, if_neg c1, if_pos c2]) hP hS dX5_wet_36
    · refine lv_aload_n hx hb dX5_wet_26 rfl (lv_at hl 0 rfl) ?_
      refine kget (v := .ref (a 18)) C hP igX5 rfl 18 (by decide) wd_2_164 0 rfl rfl dX5_wet_27 ?_
      refine lv_iload_n hx hb dX5_wet_30 rfl (lv_at hl 1 rfl) ?_
      refine kald C hP 2 rfl (in_min0 hm2 c2) (k := (Int32.toNatClampNeg mi)) rfl dX5_wet_31 ?_
      refine lv_goto (tgt := 36) hx hb dX5_wet_32 (by decide) ?_
      exact hend _ _ _ _ _ (by rw [← hr, r_X5_wet, if_neg c1, if_neg c2]) hP hS dX5_wet_36
  · refine lv_bipush (v := (-3)) hx hb dX5_wet_7 (by decide) ?_
    exact hend _ _ _ _ _ (by rw [← hr, r_X5_wet, if_pos c1]) hP hS dX5_wet_9
noncomputable def r_X5_firstFallen (Y : Nat → Int32) (fe : Nat → Int32) : Int32 := (if (Y 3) = 0 then (-3) else (r_X5_firstOf Y fe 0))
theorem ck_X5_firstFallen : CK yX5_firstFallen cX5_firstFallen 1 (some .int) 0 := ⟨wd_3_91, wd_1_7, by decide, by decide, by decide +kernel⟩
set_option maxHeartbeats 4000000 in
set_option maxRecDepth 100000 in
theorem c_X5_firstFallen (l : Launch) (D : va_G) (cI : ClassId) (a : Nat → Nat) (Y : Nat → Int32) (fe : Nat → Int32) (hv : Int32.toInt (r_X5_vials Y) ≤ 24) : MI l D cI yX5_firstFallen cX5_firstFallen 1 (some .int) 2 44 [.ref (a 0)] [yc a Y, ac cI (a 9) 48 fe] (r_X5_firstFallen Y fe) [yc a Y, ac cI (a 9) 48 fe] := by
  generalize hr : (r_X5_firstFallen Y fe) = r
  refine MI.mk (own := RX5) rfl (by decide) rfl (Nat.le_of_ble_eq_true rfl) ?_
  intro p e s m args below meth c A Q C hD hend H locs ls hP hS hl
  have hx := C.1.1
  have hb := C.1.2.1
  have hl : lv_has ls 1 [(0, .ref (a 0))] := hl
  refine lv_aload_n hx hb dX5_firstFallen_0 rfl (lv_at hl 0 rfl) ?_
  refine kget (v := .int (Y 3)) C hP igX5 rfl 3 (by decide) wd_2_149 0 rfl rfl dX5_firstFallen_1 ?_
  refine lv_if_eq (tgt := 15) hx hb dX5_firstFallen_4 (by decide) (fun c1 => ?_) (fun c1 => ?_)
  · refine lv_bipush (v := (-3)) hx hb dX5_firstFallen_15 (by decide) ?_
    exact hend _ _ _ _ _ (by rw [← hr, r_X5_firstFallen, if_pos c1]) hP hS dX5_firstFallen_17
  · refine lv_aload_n hx hb dX5_firstFallen_7 rfl (lv_at hl 0 rfl) ?_
    refine lv_iconst (v := 0) hx hb dX5_firstFallen_8 (by decide) ?_
    refine go_i (ws' := [yc a Y, ac cI (a 9) 48 fe]) C (rn_V (As := [.int 0]) (rest := []) C (c_X5_firstOf l D cI a Y fe 0 (Or.inl rfl) hv H.size) ck_X5_firstOf wd_3_94 wd_0_13 wd_3_92 ⟨Nat.le_of_ble_eq_true rfl, Nat.le_of_ble_eq_true rfl⟩ ⟨Nat.le_refl _, Nat.le_refl _⟩ (ci := 5) (q0 := 0) rfl rfl hP hD hS [0, 1] rfl rfl hl rfl (Nat.le_of_ble_eq_true rfl) dX5_firstFallen_9) hP hD hS [0, 1] rfl rfl rfl (fun H locs hP hD hS => ?_)
    refine lv_goto (tgt := 17) hx hb dX5_firstFallen_12 (by decide) ?_
    exact hend _ _ _ _ _ (by rw [← hr, r_X5_firstFallen, if_neg c1]) hP hS dX5_firstFallen_17
def r_X5_tried (Y : Nat → Int32) (tr : Nat → Int32) (k : Int32) : Int32 := (if (r_X5_in (Int32.toInt64 k) 0 4) = 0 then (-2) else (if (Y 19) = 0 then (-3) else (tr (Int32.toNatClampNeg k))))
theorem ck_X5_tried : CK yX5_tried cX5_tried 2 (some .int) 1 := ⟨wd_3_107, wd_1_7, by decide, by decide, by decide +kernel⟩
set_option maxHeartbeats 4000000 in
set_option maxRecDepth 100000 in
theorem c_X5_tried (l : Launch) (D : va_G) (cI : ClassId) (a : Nat → Nat) (Y : Nat → Int32) (tr : Nat → Int32) (k : Int32) : MI l D cI yX5_tried cX5_tried 2 (some .int) 1 25 [.ref (a 0), .int k] [yc a Y, ac cI (a 20) 5 tr] (r_X5_tried Y tr k) [yc a Y, ac cI (a 20) 5 tr] := by
  generalize hr : (r_X5_tried Y tr k) = r
  refine MI.mk (own := RX5) rfl (by decide) rfl (Nat.le_of_ble_eq_true rfl) ?_
  intro p e s m args below meth c A Q C hD hend H locs ls hP hS hl
  have hx := C.1.1
  have hb := C.1.2.1
  have hl : lv_has ls 2 [(0, .ref (a 0)), (1, .int k)] := hl
  refine lv_iload_n hx hb dX5_tried_0 rfl (lv_at hl 1 rfl) ?_
  refine lv_i2l (v := (Int32.toInt64 k)) hx hb dX5_tried_1 rfl ?_
  refine lv_lconst (v := 0) hx hb dX5_tried_2 (by decide) ?_
  refine kldc2 (v := 4) C wd_2_214 dX5_tried_3 ?_
  refine go_i (ws' := [yc a Y, ac cI (a 20) 5 tr]) C (rn_S (As := [.long (Int32.toInt64 k), .long 0, .long 4]) (rest := []) C (c_X5_in l D cI (Int32.toInt64 k) 0 4 H.size) ck_X5_in wd_2_216 wd_2_215 ⟨Nat.le_of_ble_eq_true rfl, Nat.le_of_ble_eq_true rfl⟩ ⟨Nat.le_refl _, Nat.le_refl _⟩ hP hD hS [] rfl rfl hl rfl (Nat.le_of_ble_eq_true rfl) dX5_tried_6) hP hD hS [] rfl rfl rfl (fun H locs hP hD hS => ?_)
  refine lv_if_ne (tgt := 15) hx hb dX5_tried_9 (by decide) (fun c1 => ?_) (fun c1 => ?_)
  · refine lv_aload_n hx hb dX5_tried_15 rfl (lv_at hl 0 rfl) ?_
    refine kget (v := .int (Y 19)) C hP igX5 rfl 19 (by decide) wd_2_165 0 rfl rfl dX5_tried_16 ?_
    refine lv_if_eq (tgt := 31) hx hb dX5_tried_19 (by decide) (fun c2 => ?_) (fun c2 => ?_)
    · refine lv_bipush (v := (-3)) hx hb dX5_tried_31 (by decide) ?_
      exact hend _ _ _ _ _ (by rw [← hr, r_X5_tried, if_neg c1, if_pos c2]) hP hS dX5_tried_33
    · refine lv_aload_n hx hb dX5_tried_22 rfl (lv_at hl 0 rfl) ?_
      refine kget (v := .ref (a 20)) C hP igX5 rfl 20 (by decide) wd_2_166 0 rfl rfl dX5_tried_23 ?_
      refine lv_iload_n hx hb dX5_tried_26 rfl (lv_at hl 1 rfl) ?_
      refine kald C hP 1 rfl (in_tried c1) (k := (Int32.toNatClampNeg k)) rfl dX5_tried_27 ?_
      refine lv_goto (tgt := 33) hx hb dX5_tried_28 (by decide) ?_
      exact hend _ _ _ _ _ (by rw [← hr, r_X5_tried, if_neg c1, if_neg c2]) hP hS dX5_tried_33
  · refine lv_bipush (v := (-2)) hx hb dX5_tried_12 (by decide) ?_
    exact hend _ _ _ _ _ (by rw [← hr, r_X5_tried, if_pos c1]) hP hS dX5_tried_14
def r_X5_told (Y : Nat → Int32) (ru : Nat → Int32) (k : Int32) : Int32 := (if (r_X5_in (Int32.toInt64 k) 10 20) = 0 then (if k = 0 then (Y 0) else (if k = 1 then (Y 1) else (if k = 2 then (r_X5_vials Y) else (if k = 3 then (if (Y 3) = 0 then 0 else 1) else (-10002))))) else (ru (Int32.toNatClampNeg (k - 10))))
theorem ck_X5_told : CK yX5_told cX5_told 2 (some .int) 1 := ⟨wd_3_115, wd_1_7, by decide, by decide, by decide +kernel⟩
set_option maxHeartbeats 4000000 in
set_option maxRecDepth 100000 in
theorem c_X5_told (l : Launch) (D : va_G) (cI : ClassId) (a : Nat → Nat) (Y : Nat → Int32) (ru : Nat → Int32) (k : Int32) : MI l D cI yX5_told cX5_told 2 (some .int) 1 25 [.ref (a 0), .int k] [yc a Y, ac cI (a 2) 11 ru] (r_X5_told Y ru k) [yc a Y, ac cI (a 2) 11 ru] := by
  generalize hr : (r_X5_told Y ru k) = r
  refine MI.mk (own := RX5) rfl (by decide) rfl (Nat.le_of_ble_eq_true rfl) ?_
  intro p e s m args below meth c A Q C hD hend H locs ls hP hS hl
  have hx := C.1.1
  have hb := C.1.2.1
  have hl : lv_has ls 2 [(0, .ref (a 0)), (1, .int k)] := hl
  refine lv_iload_n hx hb dX5_told_0 rfl (lv_at hl 1 rfl) ?_
  refine lv_i2l (v := (Int32.toInt64 k)) hx hb dX5_told_1 rfl ?_
  refine kldc2 (v := 10) C wd_2_227 dX5_told_2 ?_
  refine kldc2 (v := 20) C wd_3_116 dX5_told_5 ?_
  refine go_i (ws' := [yc a Y, ac cI (a 2) 11 ru]) C (rn_S (As := [.long (Int32.toInt64 k), .long 10, .long 20]) (rest := []) C (c_X5_in l D cI (Int32.toInt64 k) 10 20 H.size) ck_X5_in wd_2_216 wd_2_215 ⟨Nat.le_of_ble_eq_true rfl, Nat.le_of_ble_eq_true rfl⟩ ⟨Nat.le_refl _, Nat.le_refl _⟩ hP hD hS [] rfl rfl hl rfl (Nat.le_of_ble_eq_true rfl) dX5_told_8) hP hD hS [] rfl rfl rfl (fun H locs hP hD hS => ?_)
  refine lv_if_eq (tgt := 24) hx hb dX5_told_11 (by decide) (fun c1 => ?_) (fun c1 => ?_)
  · refine lv_iload_n hx hb dX5_told_24 rfl (lv_at hl 1 rfl) ?_
    by_cases c2 : k = 0
    · refine lv_tableIn (off := 31) (tgt := 56) hx hb dX5_told_25 (by rw [c2]; decide) (by rw [c2]; decide) (by rw [c2]; rfl) (by decide) ?_
      refine lv_aload_n hx hb dX5_told_56 rfl (lv_at hl 0 rfl) ?_
      refine kget (v := .int (Y 0)) C hP igX5 rfl 0 (by decide) wd_2_146 0 rfl rfl dX5_told_57 ?_
      exact hend _ _ _ _ _ (by rw [← hr, r_X5_told, if_pos c1, if_pos c2]) hP hS dX5_told_60
    · skip
      by_cases c3 : k = 1
      · refine lv_tableIn (off := 36) (tgt := 61) hx hb dX5_told_25 (by rw [c3]; decide) (by rw [c3]; decide) (by rw [c3]; rfl) (by decide) ?_
        refine lv_aload_n hx hb dX5_told_61 rfl (lv_at hl 0 rfl) ?_
        refine kget (v := .int (Y 1)) C hP igX5 rfl 1 (by decide) wd_2_147 0 rfl rfl dX5_told_62 ?_
        exact hend _ _ _ _ _ (by rw [← hr, r_X5_told, if_pos c1, if_neg c2, if_pos c3]) hP hS dX5_told_65
      · skip
        by_cases c4 : k = 2
        · refine lv_tableIn (off := 41) (tgt := 66) hx hb dX5_told_25 (by rw [c4]; decide) (by rw [c4]; decide) (by rw [c4]; rfl) (by decide) ?_
          refine lv_aload_n hx hb dX5_told_66 rfl (lv_at hl 0 rfl) ?_
          refine go_i (ws' := [yc a Y, ac cI (a 2) 11 ru]) C (rn_V (As := []) (rest := []) C (c_X5_vials l D cI a Y H.size) ck_X5_vials wd_2_221 wd_0_5 wd_2_219 ⟨Nat.le_of_ble_eq_true rfl, Nat.le_of_ble_eq_true rfl⟩ ⟨Nat.le_refl _, Nat.le_refl _⟩ (ci := 5) (q0 := 0) rfl rfl hP hD hS [0] rfl rfl hl rfl (Nat.le_of_ble_eq_true rfl) dX5_told_67) hP hD hS [0] rfl rfl rfl (fun H locs hP hD hS => ?_)
          exact hend _ _ _ _ _ (by rw [← hr, r_X5_told, if_pos c1, if_neg c2, if_neg c3, if_pos c4]) hP hS dX5_told_70
        · skip
          by_cases c5 : k = 3
          · refine lv_tableIn (off := 46) (tgt := 71) hx hb dX5_told_25 (by rw [c5]; decide) (by rw [c5]; decide) (by rw [c5]; rfl) (by decide) ?_
            refine lv_aload_n hx hb dX5_told_71 rfl (lv_at hl 0 rfl) ?_
            refine kget (v := .int (Y 3)) C hP igX5 rfl 3 (by decide) wd_2_149 0 rfl rfl dX5_told_72 ?_
            refine lv_if_eq (tgt := 82) hx hb dX5_told_75 (by decide) (fun c6 => ?_) (fun c6 => ?_)
            · refine lv_iconst (v := 0) hx hb dX5_told_82 (by decide) ?_
              exact hend _ _ _ _ _ (by rw [← hr, r_X5_told, if_pos c1, if_neg c2, if_neg c3, if_neg c4, if_pos c5, if_pos c6]) hP hS dX5_told_83
            · refine lv_iconst (v := 1) hx hb dX5_told_78 (by decide) ?_
              refine lv_goto (tgt := 83) hx hb dX5_told_79 (by decide) ?_
              exact hend _ _ _ _ _ (by rw [← hr, r_X5_told, if_pos c1, if_neg c2, if_neg c3, if_neg c4, if_pos c5, if_neg c6]) hP hS dX5_told_83
          · skip
            refine lv_tableOut (tgt := 84) hx hb dX5_told_25 (ts_out (fun k h1 h2 => by rcases (by omega : k = 0 ∨ k = 1 ∨ k = 2 ∨ k = 3) with rfl | rfl | rfl | rfl <;> assumption)) (by decide) ?_
            refine lv_sipush (v := (-10002)) hx hb dX5_told_84 (by decide) ?_
            exact hend _ _ _ _ _ (by rw [← hr, r_X5_told, if_pos c1, if_neg c2, if_neg c3, if_neg c4, if_neg c5]) hP hS dX5_told_87
  · refine lv_aload_n hx hb dX5_told_14 rfl (lv_at hl 0 rfl) ?_
    refine kget (v := .ref (a 2)) C hP igX5 rfl 2 (by decide) wd_2_148 0 rfl rfl dX5_told_15 ?_
    refine lv_iload_n hx hb dX5_told_18 rfl (lv_at hl 1 rfl) ?_
    refine lv_bipush (v := 10) hx hb dX5_told_19 (by decide) ?_
    refine lv_isub hx hb dX5_told_21 ?_
    refine kald C hP 1 rfl (in_told c1) (k := (Int32.toNatClampNeg (k - 10))) rfl dX5_told_22 ?_
    exact hend _ _ _ _ _ (by rw [← hr, r_X5_told, if_neg c1]) hP hS dX5_told_23
