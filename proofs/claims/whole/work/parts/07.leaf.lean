def r_X4_within (v : Int32) (a : Int32) (b : Int32) : Int32 := (if v < a then 0 else (if b < v then 0 else 1))
theorem ck_X4_within : CK yX4_within cX4_within 3 (some .boolean) 3 := ⟨wd_1_157, wd_1_1, by decide, by decide, by decide +kernel⟩
theorem b_X4_within (v : Int32) (a : Int32) (b : Int32) : (r_X4_within v a b) = 0 ∨ (r_X4_within v a b) = 1 := by
  unfold r_X4_within
  repeat' split
  all_goals first | exact Or.inl rfl | exact Or.inr rfl | exact b_X4_within _ _ _
set_option maxHeartbeats 4000000 in
set_option maxRecDepth 100000 in
theorem c_X4_within (l : Launch) (D : va_G) (cI : ClassId) (v : Int32) (a : Int32) (b : Int32) : MI l D cI yX4_within cX4_within 3 (some .boolean) 0 0 [.int v, .int a, .int b] [] (r_X4_within v a b) [] := by
  have hn : narrow .boolean (.int (r_X4_within v a b)) = .int (r_X4_within v a b) := nb (b_X4_within v a b)
  generalize hr : (r_X4_within v a b) = r at hn ⊢
  refine MI.mk (own := RX4) rfl (by decide) hn (Nat.le_of_ble_eq_true rfl) ?_
  intro p e s m args below meth c A Q C hD hend H locs ls hP hS hl
  have hx := C.1.1
  have hb := C.1.2.1
  have hl : lv_has ls 3 [(0, .int v), (1, .int a), (2, .int b)] := hl
  refine lv_iload_n hx hb dX4_within_0 rfl (lv_at hl 0 rfl) ?_
  refine lv_iload_n hx hb dX4_within_1 rfl (lv_at hl 1 rfl) ?_
  refine lv_icmp_lt (tgt := 14) hx hb dX4_within_2 (by decide) (fun c1 => ?_) (fun c1 => ?_)
  · refine lv_iconst (v := 0) hx hb dX4_within_14 (by decide) ?_
    exact hend _ _ _ _ _ (by rw [← hr, r_X4_within, if_pos c1]) hP hS dX4_within_15
  · refine lv_iload_n hx hb dX4_within_5 rfl (lv_at hl 0 rfl) ?_
    refine lv_iload_n hx hb dX4_within_6 rfl (lv_at hl 2 rfl) ?_
    refine lv_icmp_gt (tgt := 14) hx hb dX4_within_7 (by decide) (fun c2 => ?_) (fun c2 => ?_)
    · refine lv_iconst (v := 0) hx hb dX4_within_14 (by decide) ?_
      exact hend _ _ _ _ _ (by rw [← hr, r_X4_within, if_neg c1, if_pos c2]) hP hS dX4_within_15
    · refine lv_iconst (v := 1) hx hb dX4_within_10 (by decide) ?_
      refine lv_goto (tgt := 15) hx hb dX4_within_11 (by decide) ?_
      exact hend _ _ _ _ _ (by rw [← hr, r_X4_within, if_neg c1, if_neg c2]) hP hS dX4_within_15
def r_X4_quotient (v : Int32) (a : Int32) : Int32 := (if a = 0 then 0 else (v / a))
theorem ck_X4_quotient : CK yX4_quotient cX4_quotient 2 (some .int) 2 := ⟨wd_1_210, wd_1_1, by decide, by decide, by decide +kernel⟩
set_option maxHeartbeats 4000000 in
set_option maxRecDepth 100000 in
theorem c_X4_quotient (l : Launch) (D : va_G) (cI : ClassId) (v : Int32) (a : Int32) : MI l D cI yX4_quotient cX4_quotient 2 (some .int) 0 0 [.int v, .int a] [] (r_X4_quotient v a) [] := by
  generalize hr : (r_X4_quotient v a) = r
  refine MI.mk (own := RX4) rfl (by decide) rfl (Nat.le_of_ble_eq_true rfl) ?_
  intro p e s m args below meth c A Q C hD hend H locs ls hP hS hl
  have hx := C.1.1
  have hb := C.1.2.1
  have hl : lv_has ls 2 [(0, .int v), (1, .int a)] := hl
  refine lv_iload_n hx hb dX4_quotient_0 rfl (lv_at hl 1 rfl) ?_
  refine lv_if_ne (tgt := 8) hx hb dX4_quotient_1 (by decide) (fun c1 => ?_) (fun c1 => ?_)
  · refine lv_iload_n hx hb dX4_quotient_8 rfl (lv_at hl 0 rfl) ?_
    refine lv_iload_n hx hb dX4_quotient_9 rfl (lv_at hl 1 rfl) ?_
    refine lv_idiv hx hb dX4_quotient_10 c1 ?_
    exact hend _ _ _ _ _ (by rw [← hr, r_X4_quotient, if_neg c1]) hP hS dX4_quotient_11
  · refine lv_iconst (v := 0) hx hb dX4_quotient_4 (by decide) ?_
    refine lv_goto (tgt := 11) hx hb dX4_quotient_5 (by decide) ?_
    exact hend _ _ _ _ _ (by rw [← hr, r_X4_quotient, if_pos c1]) hP hS dX4_quotient_11
def r_X4_vapourAt (t : Int32) : Int32 := (((((((((t - (-600)) / 10) + 2) * (((t - (-600)) / 10) + 2)) * (((t - (-600)) / 10) + 2)) / 20) * (10 - ((t - (-600)) - (t - (-600)) / 10 * 10))) + (((((((t - (-600)) / 10) + 3) * (((t - (-600)) / 10) + 3)) * (((t - (-600)) / 10) + 3)) / 20) * ((t - (-600)) - (t - (-600)) / 10 * 10))) / 10)
theorem ck_X4_vapourAt : CK yX4_vapourAt cX4_vapourAt 8 (some .int) 1 := ⟨wd_1_193, wd_1_1, by decide, by decide, by decide +kernel⟩
set_option maxHeartbeats 4000000 in
set_option maxRecDepth 100000 in
theorem c_X4_vapourAt (l : Launch) (D : va_G) (cI : ClassId) (t : Int32) : MI l D cI yX4_vapourAt cX4_vapourAt 8 (some .int) 0 0 [.int t] [] (r_X4_vapourAt t) [] := by
  generalize hr : (r_X4_vapourAt t) = r
  refine MI.mk (own := RX4) rfl (by decide) rfl (Nat.le_of_ble_eq_true rfl) ?_
  intro p e s m args below meth c A Q C hD hend H locs ls hP hS hl
  have hx := C.1.1
  have hb := C.1.2.1
  have hl : lv_has ls 8 [(0, .int t)] := hl
  refine lv_iload_n hx hb dX4_vapourAt_0 rfl (lv_at hl 0 rfl) ?_
  refine lv_sipush (v := (-600)) hx hb dX4_vapourAt_1 (by decide) ?_
  refine lv_isub hx hb dX4_vapourAt_4 ?_
  refine lv_istore_n (lv' := [(1, .int (t - (-600))), (0, .int t)]) hx hb dX4_vapourAt_5 rfl hl (by decide) rfl (fun ls hl => ?_)
  refine lv_iload_n hx hb dX4_vapourAt_6 rfl (lv_at hl 0 rfl) ?_
  refine lv_bipush (v := 10) hx hb dX4_vapourAt_7 (by decide) ?_
  refine lv_idiv hx hb dX4_vapourAt_9 (by decide) ?_
  refine lv_istore_n (lv' := [(2, .int ((t - (-600)) / 10)), (1, .int (t - (-600))), (0, .int t)]) hx hb dX4_vapourAt_10 rfl hl (by decide) rfl (fun ls hl => ?_)
  refine lv_iload_n hx hb dX4_vapourAt_11 rfl (lv_at hl 1 rfl) ?_
  refine lv_bipush (v := 10) hx hb dX4_vapourAt_12 (by decide) ?_
  refine lv_irem hx hb dX4_vapourAt_14 (by decide) ?_
  refine lv_istore_n (lv' := [(3, .int ((t - (-600)) - (t - (-600)) / 10 * 10)), (2, .int ((t - (-600)) / 10)), (1, .int (t - (-600))), (0, .int t)]) hx hb dX4_vapourAt_15 rfl hl (by decide) rfl (fun ls hl => ?_)
  refine lv_iload_n hx hb dX4_vapourAt_16 rfl (lv_at hl 1 rfl) ?_
  refine lv_iconst (v := 2) hx hb dX4_vapourAt_17 (by decide) ?_
  refine lv_iadd hx hb dX4_vapourAt_18 ?_
  refine lv_istore (lv' := [(4, .int (((t - (-600)) / 10) + 2)), (3, .int ((t - (-600)) - (t - (-600)) / 10 * 10)), (2, .int ((t - (-600)) / 10)), (1, .int (t - (-600))), (0, .int t)]) hx hb dX4_vapourAt_19 hl (by decide) rfl (fun ls hl => ?_)
  refine lv_iload_n hx hb dX4_vapourAt_21 rfl (lv_at hl 2 rfl) ?_
  refine lv_iconst (v := 3) hx hb dX4_vapourAt_22 (by decide) ?_
  refine lv_iadd hx hb dX4_vapourAt_23 ?_
  refine lv_istore (lv' := [(5, .int (((t - (-600)) / 10) + 3)), (4, .int (((t - (-600)) / 10) + 2)), (3, .int ((t - (-600)) - (t - (-600)) / 10 * 10)), (2, .int ((t - (-600)) / 10)), (1, .int (t - (-600))), (0, .int t)]) hx hb dX4_vapourAt_24 hl (by decide) rfl (fun ls hl => ?_)
  refine lv_iload hx hb dX4_vapourAt_26 (lv_at hl 1 rfl) ?_
  refine lv_iload hx hb dX4_vapourAt_28 (lv_at hl 1 rfl) ?_
  refine lv_imul hx hb dX4_vapourAt_30 ?_
  refine lv_iload hx hb dX4_vapourAt_31 (lv_at hl 1 rfl) ?_
  refine lv_imul hx hb dX4_vapourAt_33 ?_
  refine lv_bipush (v := 20) hx hb dX4_vapourAt_34 (by decide) ?_
  refine lv_idiv hx hb dX4_vapourAt_36 (by decide) ?_
  refine lv_istore (lv' := [(6, .int ((((((t - (-600)) / 10) + 2) * (((t - (-600)) / 10) + 2)) * (((t - (-600)) / 10) + 2)) / 20)), (5, .int (((t - (-600)) / 10) + 3)), (4, .int (((t - (-600)) / 10) + 2)), (3, .int ((t - (-600)) - (t - (-600)) / 10 * 10)), (2, .int ((t - (-600)) / 10)), (1, .int (t - (-600))), (0, .int t)]) hx hb dX4_vapourAt_37 hl (by decide) rfl (fun ls hl => ?_)
  refine lv_iload hx hb dX4_vapourAt_39 (lv_at hl 1 rfl) ?_
  refine lv_iload hx hb dX4_vapourAt_41 (lv_at hl 1 rfl) ?_
  refine lv_imul hx hb dX4_vapourAt_43 ?_
  refine lv_iload hx hb dX4_vapourAt_44 (lv_at hl 1 rfl) ?_
  refine lv_imul hx hb dX4_vapourAt_46 ?_
  refine lv_bipush (v := 20) hx hb dX4_vapourAt_47 (by decide) ?_
  refine lv_idiv hx hb dX4_vapourAt_49 (by decide) ?_
  refine lv_istore (lv' := [(7, .int ((((((t - (-600)) / 10) + 3) * (((t - (-600)) / 10) + 3)) * (((t - (-600)) / 10) + 3)) / 20)), (6, .int ((((((t - (-600)) / 10) + 2) * (((t - (-600)) / 10) + 2)) * (((t - (-600)) / 10) + 2)) / 20)), (5, .int (((t - (-600)) / 10) + 3)), (4, .int (((t - (-600)) / 10) + 2)), (3, .int ((t - (-600)) - (t - (-600)) / 10 * 10)), (2, .int ((t - (-600)) / 10)), (1, .int (t - (-600))), (0, .int t)]) hx hb dX4_vapourAt_50 hl (by decide) rfl (fun ls hl => ?_)
  refine lv_iload hx hb dX4_vapourAt_52 (lv_at hl 1 rfl) ?_
  refine lv_bipush (v := 10) hx hb dX4_vapourAt_54 (by decide) ?_
  refine lv_iload_n hx hb dX4_vapourAt_56 rfl (lv_at hl 4 rfl) ?_
  refine lv_isub hx hb dX4_vapourAt_57 ?_
  refine lv_imul hx hb dX4_vapourAt_58 ?_
  refine lv_iload hx hb dX4_vapourAt_59 (lv_at hl 0 rfl) ?_
  refine lv_iload_n hx hb dX4_vapourAt_61 rfl (lv_at hl 4 rfl) ?_
  refine lv_imul hx hb dX4_vapourAt_62 ?_
  refine lv_iadd hx hb dX4_vapourAt_63 ?_
  refine lv_bipush (v := 10) hx hb dX4_vapourAt_64 (by decide) ?_
  refine lv_idiv hx hb dX4_vapourAt_66 (by decide) ?_
  exact hend _ _ _ _ _ (by rw [← hr, r_X4_vapourAt]) hP hS dX4_vapourAt_67
def r_X4_steamAt (t : Int32) (b : Int32) (p0 : Int32) : Int32 := (r_X4_quotient ((if 0 < ((r_X4_vapourAt t) - p0) then ((r_X4_vapourAt t) - p0) else 0) * 10) b)
theorem ck_X4_steamAt : CK yX4_steamAt cX4_steamAt 3 (some .int) 3 := ⟨wd_1_204, wd_1_1, by decide, by decide, by decide +kernel⟩
set_option maxHeartbeats 4000000 in
set_option maxRecDepth 100000 in
theorem c_X4_steamAt (l : Launch) (D : va_G) (cI : ClassId) (t : Int32) (b : Int32) (p0 : Int32) : MI l D cI yX4_steamAt cX4_steamAt 3 (some .int) 1 27 [.int t, .int b, .int p0] [] (r_X4_steamAt t b p0) [] := by
  generalize hr : (r_X4_steamAt t b p0) = r
  refine MI.mk (own := RX4) rfl (by decide) rfl (Nat.le_of_ble_eq_true rfl) ?_
  intro p e s m args below meth c A Q C hD hend H locs ls hP hS hl
  have hx := C.1.1
  have hb := C.1.2.1
  have hl : lv_has ls 3 [(0, .int t), (1, .int b), (2, .int p0)] := hl
  refine lv_iconst (v := 0) hx hb dX4_steamAt_0 (by decide) ?_
  refine lv_iload_n hx hb dX4_steamAt_1 rfl (lv_at hl 0 rfl) ?_
  refine go_i (ws' := []) C (rn_S (As := [.int t]) (rest := [.int 0]) C (c_X4_vapourAt l D cI t H.size) ck_X4_vapourAt wd_1_192 wd_1_191 ⟨Nat.le_of_ble_eq_true rfl, Nat.le_of_ble_eq_true rfl⟩ ⟨Nat.le_refl _, Nat.le_refl _⟩ hP hD hS [] rfl rfl hl rfl (Nat.le_of_ble_eq_true rfl) dX4_steamAt_2) hP hD hS [] rfl rfl rfl (fun H locs hP hD hS => ?_)
  refine lv_iload_n hx hb dX4_steamAt_5 rfl (lv_at hl 2 rfl) ?_
  refine lv_isub hx hb dX4_steamAt_6 ?_
  refine kmax C hl wd_1_205 wd_1_206 wd_1_8 wd_1_207 ⟨by decide, Nat.le_of_ble_eq_true rfl⟩ ⟨Nat.le_refl _, Nat.le_refl _⟩ dX4_steamAt_7 ?_
  refine lv_bipush (v := 10) hx hb dX4_steamAt_10 (by decide) ?_
  refine lv_imul hx hb dX4_steamAt_12 ?_
  refine lv_iload_n hx hb dX4_steamAt_13 rfl (lv_at hl 1 rfl) ?_
  refine go_i (ws' := []) C (rn_S (As := [.int ((if 0 < ((r_X4_vapourAt t) - p0) then ((r_X4_vapourAt t) - p0) else 0) * 10), .int b]) (rest := []) C (c_X4_quotient l D cI ((if 0 < ((r_X4_vapourAt t) - p0) then ((r_X4_vapourAt t) - p0) else 0) * 10) b H.size) ck_X4_quotient wd_1_209 wd_1_208 ⟨Nat.le_of_ble_eq_true rfl, Nat.le_of_ble_eq_true rfl⟩ ⟨Nat.le_refl _, Nat.le_refl _⟩ hP hD hS [] rfl rfl hl rfl (Nat.le_of_ble_eq_true rfl) dX4_steamAt_14) hP hD hS [] rfl rfl rfl (fun H locs hP hD hS => ?_)
  exact hend _ _ _ _ _ (by rw [← hr, r_X4_steamAt]) hP hS dX4_steamAt_17
def r_X3_has (k : Int32) : Int32 := (r_X4_within k 0 10)
theorem ck_X3_has : CK yX3_has cX3_has 1 (some .boolean) 1 := ⟨wd_1_168, wd_1_2, by decide, by decide, by decide +kernel⟩
theorem b_X3_has (k : Int32) : (r_X3_has k) = 0 ∨ (r_X3_has k) = 1 := b_X4_within _ _ _
set_option maxHeartbeats 4000000 in
set_option maxRecDepth 100000 in
theorem c_X3_has (l : Launch) (D : va_G) (cI : ClassId) (k : Int32) : MI l D cI yX3_has cX3_has 1 (some .boolean) 1 22 [.int k] [] (r_X3_has k) [] := by
  have hn : narrow .boolean (.int (r_X3_has k)) = .int (r_X3_has k) := nb (b_X3_has k)
  generalize hr : (r_X3_has k) = r at hn ⊢
  refine MI.mk (own := RX3) rfl (by decide) hn (Nat.le_of_ble_eq_true rfl) ?_
  intro p e s m args below meth c A Q C hD hend H locs ls hP hS hl
  have hx := C.1.1
  have hb := C.1.2.1
  have hl : lv_has ls 1 [(0, .int k)] := hl
  refine lv_iload_n hx hb dX3_has_0 rfl (lv_at hl 0 rfl) ?_
  refine lv_iconst (v := 0) hx hb dX3_has_1 (by decide) ?_
  refine lv_bipush (v := 10) hx hb dX3_has_2 (by decide) ?_
  refine go_i (ws' := []) C (rn_N (As := [.int k, .int 0, .int 10]) (rest := []) C (c_X4_within l D cI k 0 10 H.size) ck_X4_within wd_1_156 C.2.2.1.2.2.2.2.2 ⟨Nat.le_of_ble_eq_true rfl, Nat.le_of_ble_eq_true rfl⟩ ⟨Nat.le_refl _, Nat.le_refl _⟩ hP hD hS [] rfl rfl hl rfl (Nat.le_of_ble_eq_true rfl) dX3_has_4) hP hD hS [] rfl rfl rfl (fun H locs hP hD hS => ?_)
  exact hend _ _ _ _ _ (by rw [← hr, r_X3_has]) hP hS dX3_has_7
