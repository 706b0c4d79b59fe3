def r_X4_places (X : Nat → Int32) : Int32 := ((X 4) * (X 5))
theorem ck_X4_places : CK yX4_places cX4_places 1 (some .int) 0 := ⟨wd_1_161, wd_1_1, by decide, by decide, by decide +kernel⟩
set_option maxHeartbeats 4000000 in
set_option maxRecDepth 100000 in
theorem c_X4_places (l : Launch) (D : va_G) (cI : ClassId) (ax : Nat) (ar : Nat) (al : Nat) (at_ : Nat) (ah : Nat) (X : Nat → Int32) : MI l D cI yX4_places cX4_places 1 (some .int) 0 0 [.ref ax] [xc ax ar al at_ ah X] (r_X4_places X) [xc ax ar al at_ ah X] := by
  generalize hr : (r_X4_places X) = r
  refine MI.mk (own := RX4) rfl (by decide) rfl (Nat.le_of_ble_eq_true rfl) ?_
  intro p e s m args below meth c A Q C hD hend H locs ls hP hS hl
  have hx := C.1.1
  have hb := C.1.2.1
  have hl : lv_has ls 1 [(0, .ref ax)] := hl
  refine lv_aload_n hx hb dX4_places_0 rfl (lv_at hl 0 rfl) ?_
  refine kget (v := .int (X 4)) C hP igX4 rfl 4 (by decide) wd_1_124 0 rfl rfl dX4_places_1 ?_
  refine lv_aload_n hx hb dX4_places_4 rfl (lv_at hl 0 rfl) ?_
  refine kget (v := .int (X 5)) C hP igX4 rfl 5 (by decide) wd_1_125 0 rfl rfl dX4_places_5 ?_
  refine lv_imul hx hb dX4_places_8 ?_
  exact hend _ _ _ _ _ (by rw [← hr, r_X4_places]) hP hS dX4_places_9
def r_X4_isAtRim (X : Nat → Int32) (k : Int32) : Int32 := (if (r_X4_quotient k (X 5)) = 0 then 1 else (if (r_X4_quotient k (X 5)) = ((X 4) - 1) then 1 else (if (k - ((r_X4_quotient k (X 5)) * (X 5))) = 0 then 1 else (if (k - ((r_X4_quotient k (X 5)) * (X 5))) = ((X 5) - 1) then 1 else 0))))
theorem ck_X4_isAtRim : CK yX4_isAtRim cX4_isAtRim 4 (some .boolean) 1 := ⟨wd_1_218, wd_1_1, by decide, by decide, by decide +kernel⟩
theorem b_X4_isAtRim (X : Nat → Int32) (k : Int32) : (r_X4_isAtRim X k) = 0 ∨ (r_X4_isAtRim X k) = 1 := by
  unfold r_X4_isAtRim
  repeat' split
  all_goals first | exact Or.inl rfl | exact Or.inr rfl | exact b_X4_within _ _ _
set_option maxHeartbeats 4000000 in
set_option maxRecDepth 100000 in
theorem c_X4_isAtRim (l : Launch) (D : va_G) (cI : ClassId) (ax : Nat) (ar : Nat) (al : Nat) (at_ : Nat) (ah : Nat) (X : Nat → Int32) (k : Int32) : MI l D cI yX4_isAtRim cX4_isAtRim 4 (some .boolean) 1 21 [.ref ax, .int k] [xc ax ar al at_ ah X] (r_X4_isAtRim X k) [xc ax ar al at_ ah X] := by
  have hn : narrow .boolean (.int (r_X4_isAtRim X k)) = .int (r_X4_isAtRim X k) := nb (b_X4_isAtRim X k)
  generalize hr : (r_X4_isAtRim X k) = r at hn ⊢
  refine MI.mk (own := RX4) rfl (by decide) hn (Nat.le_of_ble_eq_true rfl) ?_
  intro p e s m args below meth c A Q C hD hend H locs ls hP hS hl
  have hx := C.1.1
  have hb := C.1.2.1
  have hl : lv_has ls 4 [(0, .ref ax), (1, .int k)] := hl
  refine lv_iload_n hx hb dX4_isAtRim_0 rfl (lv_at hl 1 rfl) ?_
  refine lv_aload_n hx hb dX4_isAtRim_1 rfl (lv_at hl 0 rfl) ?_
  refine kget (v := .int (X 5)) C hP igX4 rfl 5 (by decide) wd_1_125 0 rfl rfl dX4_isAtRim_2 ?_
  refine go_i (ws' := [xc ax ar al at_ ah X]) C (rn_S (As := [.int k, .int (X 5)]) (rest := []) C (c_X4_quotient l D cI k (X 5) H.size) ck_X4_quotient wd_1_209 wd_1_208 ⟨Nat.le_of_ble_eq_true rfl, Nat.le_of_ble_eq_true rfl⟩ ⟨Nat.le_refl _, Nat.le_refl _⟩ hP hD hS [] rfl rfl hl rfl (Nat.le_of_ble_eq_true rfl) dX4_isAtRim_5) hP hD hS [] rfl rfl rfl (fun H locs hP hD hS => ?_)
  refine lv_istore_n (lv' := [(2, .int (r_X4_quotient k (X 5))), (0, .ref ax), (1, .int k)]) hx hb dX4_isAtRim_8 rfl hl (by decide) rfl (fun ls hl => ?_)
  refine lv_iload_n hx hb dX4_isAtRim_9 rfl (lv_at hl 2 rfl) ?_
  refine lv_iload_n hx hb dX4_isAtRim_10 rfl (lv_at hl 0 rfl) ?_
  refine lv_aload_n hx hb dX4_isAtRim_11 rfl (lv_at hl 1 rfl) ?_
  refine kget (v := .int (X 5)) C hP igX4 rfl 5 (by decide) wd_1_125 0 rfl rfl dX4_isAtRim_12 ?_
  refine lv_imul hx hb dX4_isAtRim_15 ?_
  refine lv_isub hx hb dX4_isAtRim_16 ?_
  refine lv_istore_n (lv' := [(3, .int (k - ((r_X4_quotient k (X 5)) * (X 5)))), (2, .int (r_X4_quotient k (X 5))), (0, .ref ax), (1, .int k)]) hx hb dX4_isAtRim_17 rfl hl (by decide) rfl (fun ls hl => ?_)
  refine lv_iload_n hx hb dX4_isAtRim_18 rfl (lv_at hl 1 rfl) ?_
  refine lv_if_eq (tgt := 46) hx hb dX4_isAtRim_19 (by decide) (fun c1 => ?_) (fun c1 => ?_)
  · refine lv_iconst (v := 1) hx hb dX4_isAtRim_46 (by decide) ?_
    refine lv_goto (tgt := 51) hx hb dX4_isAtRim_47 (by decide) ?_
    exact hend _ _ _ _ _ (by rw [← hr, r_X4_isAtRim, if_pos c1]) hP hS dX4_isAtRim_51
  · refine lv_iload_n hx hb dX4_isAtRim_22 rfl (lv_at hl 1 rfl) ?_
    refine lv_aload_n hx hb dX4_isAtRim_23 rfl (lv_at hl 2 rfl) ?_
    refine kget (v := .int (X 4)) C hP igX4 rfl 4 (by decide) wd_1_124 0 rfl rfl dX4_isAtRim_24 ?_
    refine lv_iconst (v := 1) hx hb dX4_isAtRim_27 (by decide) ?_
    refine lv_isub hx hb dX4_isAtRim_28 ?_
    refine lv_icmp_eq (tgt := 46) hx hb dX4_isAtRim_29 (by decide) (fun c2 => ?_) (fun c2 => ?_)
    · refine lv_iconst (v := 1) hx hb dX4_isAtRim_46 (by decide) ?_
      refine lv_goto (tgt := 51) hx hb dX4_isAtRim_47 (by decide) ?_
      exact hend _ _ _ _ _ (by rw [← hr, r_X4_isAtRim, if_neg c1, if_pos c2]) hP hS dX4_isAtRim_51
    · refine lv_iload_n hx hb dX4_isAtRim_32 rfl (lv_at hl 0 rfl) ?_
      refine lv_if_eq (tgt := 46) hx hb dX4_isAtRim_33 (by decide) (fun c3 => ?_) (fun c3 => ?_)
      · refine lv_iconst (v := 1) hx hb dX4_isAtRim_46 (by decide) ?_
        refine lv_goto (tgt := 51) hx hb dX4_isAtRim_47 (by decide) ?_
        exact hend _ _ _ _ _ (by rw [← hr, r_X4_isAtRim, if_neg c1, if_neg c2, if_pos c3]) hP hS dX4_isAtRim_51
      · refine lv_iload_n hx hb dX4_isAtRim_36 rfl (lv_at hl 0 rfl) ?_
        refine lv_aload_n hx hb dX4_isAtRim_37 rfl (lv_at hl 2 rfl) ?_
        refine kget (v := .int (X 5)) C hP igX4 rfl 5 (by decide) wd_1_125 0 rfl rfl dX4_isAtRim_38 ?_
        refine lv_iconst (v := 1) hx hb dX4_isAtRim_41 (by decide) ?_
        refine lv_isub hx hb dX4_isAtRim_42 ?_
        refine lv_icmp_ne (tgt := 50) hx hb dX4_isAtRim_43 (by decide) (fun c4 => ?_) (fun c4 => ?_)
        · refine lv_iconst (v := 0) hx hb dX4_isAtRim_50 (by decide) ?_
          exact hend _ _ _ _ _ (by rw [← hr, r_X4_isAtRim, if_neg c1, if_neg c2, if_neg c3, if_neg c4]) hP hS dX4_isAtRim_51
        · refine lv_iconst (v := 1) hx hb dX4_isAtRim_46 (by decide) ?_
          refine lv_goto (tgt := 51) hx hb dX4_isAtRim_47 (by decide) ?_
          exact hend _ _ _ _ _ (by rw [← hr, r_X4_isAtRim, if_neg c1, if_neg c2, if_neg c3, if_pos c4]) hP hS dX4_isAtRim_51
def r_X4_isMapped (p0 : Int32) (mn : Int32) : Int32 := (if (r_X4_within p0 0 5000) = 0 then 0 else (if (r_X4_within mn 1 100) = 0 then 0 else 1))
theorem ck_X4_isMapped : CK yX4_isMapped cX4_isMapped 2 (some .boolean) 2 := ⟨wd_2_120, wd_1_1, by decide, by decide, by decide +kernel⟩
theorem b_X4_isMapped (p0 : Int32) (mn : Int32) : (r_X4_isMapped p0 mn) = 0 ∨ (r_X4_isMapped p0 mn) = 1 := by
  unfold r_X4_isMapped
  repeat' split
  all_goals first | exact Or.inl rfl | exact Or.inr rfl | exact b_X4_within _ _ _
set_option maxHeartbeats 4000000 in
set_option maxRecDepth 100000 in
theorem c_X4_isMapped (l : Launch) (D : va_G) (cI : ClassId) (p0 : Int32) (mn : Int32) : MI l D cI yX4_isMapped cX4_isMapped 2 (some .boolean) 1 22 [.int p0, .int mn] [] (r_X4_isMapped p0 mn) [] := by
  have hn : narrow .boolean (.int (r_X4_isMapped p0 mn)) = .int (r_X4_isMapped p0 mn) := nb (b_X4_isMapped p0 mn)
  generalize hr : (r_X4_isMapped p0 mn) = r at hn ⊢
  refine MI.mk (own := RX4) rfl (by decide) hn (Nat.le_of_ble_eq_true rfl) ?_
  intro p e s m args below meth c A Q C hD hend H locs ls hP hS hl
  have hx := C.1.1
  have hb := C.1.2.1
  have hl : lv_has ls 2 [(0, .int p0), (1, .int mn)] := hl
  refine lv_iload_n hx hb dX4_isMapped_0 rfl (lv_at hl 0 rfl) ?_
  refine lv_iconst (v := 0) hx hb dX4_isMapped_1 (by decide) ?_
  refine lv_sipush (v := 5000) hx hb dX4_isMapped_2 (by decide) ?_
  refine go_i (ws' := []) C (rn_S (As := [.int p0, .int 0, .int 5000]) (rest := []) C (c_X4_within l D cI p0 0 5000 H.size) ck_X4_within wd_1_156 wd_1_155 ⟨Nat.le_of_ble_eq_true rfl, Nat.le_of_ble_eq_true rfl⟩ ⟨Nat.le_refl _, Nat.le_refl _⟩ hP hD hS [] rfl rfl hl rfl (Nat.le_of_ble_eq_true rfl) dX4_isMapped_5) hP hD hS [] rfl rfl rfl (fun H locs hP hD hS => ?_)
  refine lv_if_eq (tgt := 25) hx hb dX4_isMapped_8 (by decide) (fun c1 => ?_) (fun c1 => ?_)
  · refine lv_iconst (v := 0) hx hb dX4_isMapped_25 (by decide) ?_
    exact hend _ _ _ _ _ (by rw [← hr, r_X4_isMapped, if_pos c1]) hP hS dX4_isMapped_26
  · refine lv_iload_n hx hb dX4_isMapped_11 rfl (lv_at hl 1 rfl) ?_
    refine lv_iconst (v := 1) hx hb dX4_isMapped_12 (by decide) ?_
    refine lv_bipush (v := 100) hx hb dX4_isMapped_13 (by decide) ?_
    refine go_i (ws' := []) C (rn_S (As := [.int mn, .int 1, .int 100]) (rest := []) C (c_X4_within l D cI mn 1 100 H.size) ck_X4_within wd_1_156 wd_1_155 ⟨Nat.le_of_ble_eq_true rfl, Nat.le_of_ble_eq_true rfl⟩ ⟨Nat.le_refl _, Nat.le_refl _⟩ hP hD hS [] rfl rfl hl rfl (Nat.le_of_ble_eq_true rfl) dX4_isMapped_15) hP hD hS [] rfl rfl rfl (fun H locs hP hD hS => ?_)
    refine lv_if_eq (tgt := 25) hx hb dX4_isMapped_18 (by decide) (fun c2 => ?_) (fun c2 => ?_)
    · refine lv_iconst (v := 0) hx hb dX4_isMapped_25 (by decide) ?_
      exact hend _ _ _ _ _ (by rw [← hr, r_X4_isMapped, if_neg c1, if_pos c2]) hP hS dX4_isMapped_26
    · refine lv_iconst (v := 1) hx hb dX4_isMapped_21 (by decide) ?_
      refine lv_goto (tgt := 26) hx hb dX4_isMapped_22 (by decide) ?_
      exact hend _ _ _ _ _ (by rw [← hr, r_X4_isMapped, if_neg c1, if_neg c2]) hP hS dX4_isMapped_26
def r_X4_shelf (X : Nat → Int32) (rw : Int32) (cl : Int32) : Int32 := (if (r_X4_within rw 1 4) = 0 then (-2) else (if (r_X4_within cl 1 6) = 0 then (-2) else (if (X 8) = 0 then (r_X4_places (x10 rw cl (X 6) (X 7) (X 8) (X 9))) else (-3))))
def q_X4_shelf_X (X : Nat → Int32) (rw : Int32) (cl : Int32) : Nat → Int32 := (if (r_X4_within rw 1 4) = 0 then X else (if (r_X4_within cl 1 6) = 0 then X else (if (X 8) = 0 then (x10 rw cl (X 6) (X 7) (X 8) (X 9)) else X)))
theorem ck_X4_shelf : CK yX4_shelf cX4_shelf 3 (some .int) 2 := ⟨wd_1_154, wd_1_1, by decide, by decide, by decide +kernel⟩
set_option maxHeartbeats 4000000 in
set_option maxRecDepth 100000 in
theorem c_X4_shelf (l : Launch) (D : va_G) (cI : ClassId) (ax : Nat) (ar : Nat) (al : Nat) (at_ : Nat) (ah : Nat) (X : Nat → Int32) (rw : Int32) (cl : Int32) : MI l D cI yX4_shelf cX4_shelf 3 (some .int) 1 22 [.ref ax, .int rw, .int cl] [xc ax ar al at_ ah X] (r_X4_shelf X rw cl) [xc ax ar al at_ ah (q_X4_shelf_X X rw cl)] := by
  generalize hr : (r_X4_shelf X rw cl) = r
  generalize ho_X : (q_X4_shelf_X X rw cl) = o_X
  refine MI.mk (own := RX4) rfl (by decide) rfl (Nat.le_of_ble_eq_true rfl) ?_
  intro p e s m args below meth c A Q C hD hend H locs ls hP hS hl
  have hx := C.1.1
  have hb := C.1.2.1
  have hl : lv_has ls 3 [(0, .ref ax), (1, .int rw), (2, .int cl)] := hl
  refine lv_iload_n hx hb dX4_shelf_0 rfl (lv_at hl 1 rfl) ?_
  refine lv_iconst (v := 1) hx hb dX4_shelf_1 (by decide) ?_
  refine lv_iconst (v := 4) hx hb dX4_shelf_2 (by decide) ?_
  refine go_i (ws' := [xc ax ar al at_ ah X]) C (rn_S (As := [.int rw, .int 1, .int 4]) (rest := []) C (c_X4_within l D cI rw 1 4 H.size) ck_X4_within wd_1_156 wd_1_155 ⟨Nat.le_of_ble_eq_true rfl, Nat.le_of_ble_eq_true rfl⟩ ⟨Nat.le_refl _, Nat.le_refl _⟩ hP hD hS [] rfl rfl hl rfl (Nat.le_of_ble_eq_true rfl) dX4_shelf_3) hP hD hS [] rfl rfl rfl (fun H locs hP hD hS => ?_)
  refine lv_if_eq (tgt := 19) hx hb dX4_shelf_6 (by decide) (fun c1 => ?_) (fun c1 => ?_)
  · refine lv_bipush (v := (-2)) hx hb dX4_shelf_19 (by decide) ?_
    exact hend _ _ _ _ _ (by rw [← hr, r_X4_shelf, if_pos c1]) (by rw [← ho_X, q_X4_shelf_X, if_pos c1]; exact hP) hS dX4_shelf_21
  · refine lv_iload_n hx hb dX4_shelf_9 rfl (lv_at hl 2 rfl) ?_
    refine lv_iconst (v := 1) hx hb dX4_shelf_10 (by decide) ?_
    refine lv_bipush (v := 6) hx hb dX4_shelf_11 (by decide) ?_
    refine go_i (ws' := [xc ax ar al at_ ah X]) C (rn_S (As := [.int cl, .int 1, .int 6]) (rest := []) C (c_X4_within l D cI cl 1 6 H.size) ck_X4_within wd_1_156 wd_1_155 ⟨Nat.le_of_ble_eq_true rfl, Nat.le_of_ble_eq_true rfl⟩ ⟨Nat.le_refl _, Nat.le_refl _⟩ hP hD hS [] rfl rfl hl rfl (Nat.le_of_ble_eq_true rfl) dX4_shelf_13) hP hD hS [] rfl rfl rfl (fun H locs hP hD hS => ?_)
    refine lv_if_ne (tgt := 22) hx hb dX4_shelf_16 (by decide) (fun c2 => ?_) (fun c2 => ?_)
    · refine lv_aload_n hx hb dX4_shelf_22 rfl (lv_at hl 0 rfl) ?_
      refine kget (v := .int (X 8)) C hP igX4 rfl 8 (by decide) wd_1_128 0 rfl rfl dX4_shelf_23 ?_
      refine lv_if_eq (tgt := 32) hx hb dX4_shelf_26 (by decide) (fun c3 => ?_) (fun c3 => ?_)
      · refine lv_aload_n hx hb dX4_shelf_32 rfl (lv_at hl 0 rfl) ?_
        refine lv_iload_n hx hb dX4_shelf_33 rfl (lv_at hl 1 rfl) ?_
        refine kput (ty := .int) (ws' := [xc ax ar al at_ ah (x10 rw (X 5) (X 6) (X 7) (X 8) (X 9))]) C hP hD hS igX4 tyX4_ok nmX4 rfl 4 (by decide) wd_1_124 rfl rfl rfl rfl 0 rfl (Nat.le_of_ble_eq_true rfl) rfl dX4_shelf_34 (fun H locs hP hD hS => ?_)
        refine lv_aload_n hx hb dX4_shelf_37 rfl (lv_at hl 0 rfl) ?_
        refine lv_iload_n hx hb dX4_shelf_38 rfl (lv_at hl 2 rfl) ?_
        refine kput (ty := .int) (ws' := [xc ax ar al at_ ah (x10 rw cl (X 6) (X 7) (X 8) (X 9))]) C hP hD hS igX4 tyX4_ok nmX4 rfl 5 (by decide) wd_1_125 rfl rfl rfl rfl 0 rfl (Nat.le_of_ble_eq_true rfl) rfl dX4_shelf_39 (fun H locs hP hD hS => ?_)
        refine lv_aload_n hx hb dX4_shelf_42 rfl (lv_at hl 0 rfl) ?_
        refine go_i (ws' := [xc ax ar al at_ ah (x10 rw cl (X 6) (X 7) (X 8) (X 9))]) C (rn_V (As := []) (rest := []) C (c_X4_places l D cI ax ar al at_ ah (x10 rw cl (X 6) (X 7) (X 8) (X 9)) H.size) ck_X4_places wd_1_160 wd_0_0 wd_1_158 ⟨Nat.le_of_ble_eq_true rfl, Nat.le_of_ble_eq_true rfl⟩ ⟨Nat.le_refl _, Nat.le_refl _⟩ (ci := 4) (q0 := 0) rfl rfl hP hD hS [0] rfl rfl hl rfl (Nat.le_of_ble_eq_true rfl) dX4_shelf_43) hP hD hS [0] rfl rfl rfl (fun H locs hP hD hS => ?_)
        exact hend _ _ _ _ _ (by rw [← hr, r_X4_shelf, if_neg c1, if_neg c2, if_pos c3]) (by rw [← ho_X, q_X4_shelf_X, if_neg c1, if_neg c2, if_pos c3]; exact hP) hS dX4_shelf_46
      · refine lv_bipush (v := (-3)) hx hb dX4_shelf_29 (by decide) ?_
        exact hend _ _ _ _ _ (by rw [← hr, r_X4_shelf, if_neg c1, if_neg c2, if_neg c3]) (by rw [← ho_X, q_X4_shelf_X, if_neg c1, if_neg c2, if_neg c3]; exact hP) hS dX4_shelf_31
    · refine lv_bipush (v := (-2)) hx hb dX4_shelf_19 (by decide) ?_
      exact hend _ _ _ _ _ (by rw [← hr, r_X4_shelf, if_neg c1, if_pos c2]) (by rw [← ho_X, q_X4_shelf_X, if_neg c1, if_pos c2]; exact hP) hS dX4_shelf_21
def r_X4_rule (X : Nat → Int32) (R : Nat → Int32) (k : Int32) (v : Int32) : Int32 := (if (r_X3_has k) = 0 then (-10001) else (if (r_X3_allows k v) = 0 then (-10002) else (if (X 8) = 0 then (r_X3_change R k v) else (-10003))))
def q_X4_rule_R (X : Nat → Int32) (R : Nat → Int32) (k : Int32) (v : Int32) : Nat → Int32 := (if (r_X3_has k) = 0 then R else (if (r_X3_allows k v) = 0 then R else (if (X 8) = 0 then (q_X3_change_R R k v) else R)))
theorem ck_X4_rule : CK yX4_rule cX4_rule 3 (some .int) 2 := ⟨wd_1_165, wd_1_1, by decide, by decide, by decide +kernel⟩
set_option maxHeartbeats 4000000 in
set_option maxRecDepth 100000 in
theorem c_X4_rule (l : Launch) (D : va_G) (cI : ClassId) (ax : Nat) (ar : Nat) (al : Nat) (at_ : Nat) (ah : Nat) (X : Nat → Int32) (av : Nat) (R : Nat → Int32) (k : Int32) (v : Int32) : MI l D cI yX4_rule cX4_rule 3 (some .int) 4 86 [.ref ax, .int k, .int v] [xc ax ar al at_ ah X, rc ar av, ac cI av 11 R] (r_X4_rule X R k v) [xc ax ar al at_ ah X, rc ar av, ac cI av 11 (q_X4_rule_R X R k v)] := by
  generalize hr : (r_X4_rule X R k v) = r
  generalize ho_R : (q_X4_rule_R X R k v) = o_R
  refine MI.mk (own := RX4) rfl (by decide) rfl (Nat.le_of_ble_eq_true rfl) ?_
  intro p e s m args below meth c A Q C hD hend H locs ls hP hS hl
  have hx := C.1.1
  have hb := C.1.2.1
  have hl : lv_has ls 3 [(0, .ref ax), (1, .int k), (2, .int v)] := hl
  refine lv_iload_n hx hb dX4_rule_0 rfl (lv_at hl 1 rfl) ?_
  refine go_i (ws' := [xc ax ar al at_ ah X, rc ar av, ac cI av 11 R]) C (rn_S (As := [.int k]) (rest := []) C (c_X3_has l D cI k H.size) ck_X3_has wd_1_167 wd_1_166 ⟨Nat.le_of_ble_eq_true rfl, Nat.le_of_ble_eq_true rfl⟩ ⟨Nat.le_refl _, Nat.le_refl _⟩ hP hD hS [] rfl rfl hl rfl (Nat.le_of_ble_eq_true rfl) dX4_rule_1) hP hD hS [] rfl rfl rfl (fun H locs hP hD hS => ?_)
  refine lv_if_ne (tgt := 11) hx hb dX4_rule_4 (by decide) (fun c1 => ?_) (fun c1 => ?_)
  · refine lv_iload_n hx hb dX4_rule_11 rfl (lv_at hl 1 rfl) ?_
    refine lv_iload_n hx hb dX4_rule_12 rfl (lv_at hl 2 rfl) ?_
    refine go_i (ws' := [xc ax ar al at_ ah X, rc ar av, ac cI av 11 R]) C (rn_S (As := [.int k, .int v]) (rest := []) C (c_X3_allows l D cI k v H.size) ck_X3_allows wd_1_171 wd_1_170 ⟨Nat.le_of_ble_eq_true rfl, Nat.le_of_ble_eq_true rfl⟩ ⟨Nat.le_refl _, Nat.le_refl _⟩ hP hD hS [] rfl rfl hl rfl (Nat.le_of_ble_eq_true rfl) dX4_rule_13) hP hD hS [] rfl rfl rfl (fun H locs hP hD hS => ?_)
    refine lv_if_ne (tgt := 23) hx hb dX4_rule_16 (by decide) (fun c2 => ?_) (fun c2 => ?_)
    · refine lv_aload_n hx hb dX4_rule_23 rfl (lv_at hl 0 rfl) ?_
      refine kget (v := .int (X 8)) C hP igX4 rfl 8 (by decide) wd_1_128 0 rfl rfl dX4_rule_24 ?_
      refine lv_if_eq (tgt := 34) hx hb dX4_rule_27 (by decide) (fun c3 => ?_) (fun c3 => ?_)
      · refine lv_aload_n hx hb dX4_rule_34 rfl (lv_at hl 0 rfl) ?_
        refine kget (v := .ref ar) C hP igX4 rfl 0 (by decide) wd_1_120 0 rfl rfl dX4_rule_35 ?_
        refine lv_iload_n hx hb dX4_rule_38 rfl (lv_at hl 1 rfl) ?_
        refine lv_iload_n hx hb dX4_rule_39 rfl (lv_at hl 2 rfl) ?_
        refine go_i (ws' := [xc ax ar al at_ ah X, rc ar av, ac cI av 11 (q_X3_change_R R k v)]) C (rn_V (As := [.int k, .int v]) (rest := []) C (c_X3_change l D cI ar av R k v H.size) ck_X3_change wd_1_179 wd_1_180 wd_1_178 ⟨Nat.le_of_ble_eq_true rfl, Nat.le_of_ble_eq_true rfl⟩ ⟨Nat.le_refl _, Nat.le_refl _⟩ (ci := 3) (q0 := 1) rfl rfl hP hD hS [1, 2] rfl rfl hl rfl (Nat.le_of_ble_eq_true rfl) dX4_rule_40) hP hD hS [1, 2] rfl rfl rfl (fun H locs hP hD hS => ?_)
        exact hend _ _ _ _ _ (by rw [← hr, r_X4_rule, if_neg c1, if_neg c2, if_pos c3]) (by rw [← ho_R, q_X4_rule_R, if_neg c1, if_neg c2, if_pos c3]; exact hP) hS dX4_rule_43
      · refine lv_sipush (v := (-10003)) hx hb dX4_rule_30 (by decide) ?_
        exact hend _ _ _ _ _ (by rw [← hr, r_X4_rule, if_neg c1, if_neg c2, if_neg c3]) (by rw [← ho_R, q_X4_rule_R, if_neg c1, if_neg c2, if_neg c3]; exact hP) hS dX4_rule_33
    · refine lv_sipush (v := (-10002)) hx hb dX4_rule_19 (by decide) ?_
      exact hend _ _ _ _ _ (by rw [← hr, r_X4_rule, if_neg c1, if_pos c2]) (by rw [← ho_R, q_X4_rule_R, if_neg c1, if_pos c2]; exact hP) hS dX4_rule_22
  · refine lv_sipush (v := (-10001)) hx hb dX4_rule_7 (by decide) ?_
    exact hend _ _ _ _ _ (by rw [← hr, r_X4_rule, if_pos c1]) (by rw [← ho_R, q_X4_rule_R, if_pos c1]; exact hP) hS dX4_rule_10
def r_X4_vapour (t : Int32) : Int32 := (if (r_X4_within t (-600) 0) = 0 then (-2) else (r_X4_vapourAt t))
theorem ck_X4_vapour : CK yX4_vapour cX4_vapour 2 (some .int) 1 := ⟨wd_1_190, wd_1_1, by decide, by decide, by decide +kernel⟩
set_option maxHeartbeats 4000000 in
set_option maxRecDepth 100000 in
theorem c_X4_vapour (l : Launch) (D : va_G) (cI : ClassId) (ax : Nat) (t : Int32) : MI l D cI yX4_vapour cX4_vapour 2 (some .int) 1 27 [.ref ax, .int t] [] (r_X4_vapour t) [] := by
  generalize hr : (r_X4_vapour t) = r
  refine MI.mk (own := RX4) rfl (by decide) rfl (Nat.le_of_ble_eq_true rfl) ?_
  intro p e s m args below meth c A Q C hD hend H locs ls hP hS hl
  have hx := C.1.1
  have hb := C.1.2.1
  have hl : lv_has ls 2 [(0, .ref ax), (1, .int t)] := hl
  refine lv_iload_n hx hb dX4_vapour_0 rfl (lv_at hl 1 rfl) ?_
  refine lv_sipush (v := (-600)) hx hb dX4_vapour_1 (by decide) ?_
  refine lv_iconst (v := 0) hx hb dX4_vapour_4 (by decide) ?_
  refine go_i (ws' := []) C (rn_S (As := [.int t, .int (-600), .int 0]) (rest := []) C (c_X4_within l D cI t (-600) 0 H.size) ck_X4_within wd_1_156 wd_1_155 ⟨Nat.le_of_ble_eq_true rfl, Nat.le_of_ble_eq_true rfl⟩ ⟨Nat.le_refl _, Nat.le_refl _⟩ hP hD hS [] rfl rfl hl rfl (Nat.le_of_ble_eq_true rfl) dX4_vapour_5) hP hD hS [] rfl rfl rfl (fun H locs hP hD hS => ?_)
  refine lv_if_eq (tgt := 18) hx hb dX4_vapour_8 (by decide) (fun c1 => ?_) (fun c1 => ?_)
  · refine lv_bipush (v := (-2)) hx hb dX4_vapour_18 (by decide) ?_
    exact hend _ _ _ _ _ (by rw [← hr, r_X4_vapour, if_pos c1]) hP hS dX4_vapour_20
  · refine lv_iload_n hx hb dX4_vapour_11 rfl (lv_at hl 1 rfl) ?_
    refine go_i (ws' := []) C (rn_S (As := [.int t]) (rest := []) C (c_X4_vapourAt l D cI t H.size) ck_X4_vapourAt wd_1_192 wd_1_191 ⟨Nat.le_of_ble_eq_true rfl, Nat.le_of_ble_eq_true rfl⟩ ⟨Nat.le_refl _, Nat.le_refl _⟩ hP hD hS [] rfl rfl hl rfl (Nat.le_of_ble_eq_true rfl) dX4_vapour_12) hP hD hS [] rfl rfl rfl (fun H locs hP hD hS => ?_)
    refine lv_goto (tgt := 20) hx hb dX4_vapour_15 (by decide) ?_
    exact hend _ _ _ _ _ (by rw [← hr, r_X4_vapour, if_neg c1]) hP hS dX4_vapour_20
def r_X4_steam (R : Nat → Int32) (t : Int32) (dd : Int32) (p0 : Int32) : Int32 := (if (r_X4_within t (-600) 0) = 0 then (-2) else (if (r_X4_within dd 0 100) = 0 then (-2) else (if (r_X4_within p0 0 20000) = 0 then (-2) else (r_X4_steamAt t (r_X3_bars R dd) p0))))
theorem ck_X4_steam : CK yX4_steam cX4_steam 4 (some .int) 3 := ⟨wd_1_197, wd_1_1, by decide, by decide, by decide +kernel⟩
set_option maxHeartbeats 4000000 in
set_option maxRecDepth 100000 in
theorem c_X4_steam (l : Launch) (D : va_G) (cI : ClassId) (ax : Nat) (ar : Nat) (al : Nat) (at_ : Nat) (ah : Nat) (X : Nat → Int32) (av : Nat) (R : Nat → Int32) (t : Int32) (dd : Int32) (p0 : Int32) : MI l D cI yX4_steam cX4_steam 4 (some .int) 2 49 [.ref ax, .int t, .int dd, .int p0] [xc ax ar al at_ ah X, rc ar av, ac cI av 11 R] (r_X4_steam R t dd p0) [xc ax ar al at_ ah X, rc ar av, ac cI av 11 R] := by
  generalize hr : (r_X4_steam R t dd p0) = r
  refine MI.mk (own := RX4) rfl (by decide) rfl (Nat.le_of_ble_eq_true rfl) ?_
  intro p e s m args below meth c A Q C hD hend H locs ls hP hS hl
  have hx := C.1.1
  have hb := C.1.2.1
  have hl : lv_has ls 4 [(0, .ref ax), (1, .int t), (2, .int dd), (3, .int p0)] := hl
  refine lv_iload_n hx hb dX4_steam_0 rfl (lv_at hl 1 rfl) ?_
  refine lv_sipush (v := (-600)) hx hb dX4_steam_1 (by decide) ?_
  refine lv_iconst (v := 0) hx hb dX4_steam_4 (by decide) ?_
  refine go_i (ws' := [xc ax ar al at_ ah X, rc ar av, ac cI av 11 R]) C (rn_S (As := [.int t, .int (-600), .int 0]) (rest := []) C (c_X4_within l D cI t (-600) 0 H.size) ck_X4_within wd_1_156 wd_1_155 ⟨Nat.le_of_ble_eq_true rfl, Nat.le_of_ble_eq_true rfl⟩ ⟨Nat.le_refl _, Nat.le_refl _⟩ hP hD hS [] rfl rfl hl rfl (Nat.le_of_ble_eq_true rfl) dX4_steam_5) hP hD hS [] rfl rfl rfl (fun H locs hP hD hS => ?_)
  refine lv_if_eq (tgt := 32) hx hb dX4_steam_8 (by decide) (fun c1 => ?_) (fun c1 => ?_)
  · refine lv_bipush (v := (-2)) hx hb dX4_steam_32 (by decide) ?_
    exact hend _ _ _ _ _ (by rw [← hr, r_X4_steam, if_pos c1]) hP hS dX4_steam_34
  · refine lv_iload_n hx hb dX4_steam_11 rfl (lv_at hl 2 rfl) ?_
    refine lv_iconst (v := 0) hx hb dX4_steam_12 (by decide) ?_
    refine lv_bipush (v := 100) hx hb dX4_steam_13 (by decide) ?_
    refine go_i (ws' := [xc ax ar al at_ ah X, rc ar av, ac cI av 11 R]) C (rn_S (As := [.int dd, .int 0, .int 100]) (rest := []) C (c_X4_within l D cI dd 0 100 H.size) ck_X4_within wd_1_156 wd_1_155 ⟨Nat.le_of_ble_eq_true rfl, Nat.le_of_ble_eq_true rfl⟩ ⟨Nat.le_refl _, Nat.le_refl _⟩ hP hD hS [] rfl rfl hl rfl (Nat.le_of_ble_eq_true rfl) dX4_steam_15) hP hD hS [] rfl rfl rfl (fun H locs hP hD hS => ?_)
    refine lv_if_eq (tgt := 32) hx hb dX4_steam_18 (by decide) (fun c2 => ?_) (fun c2 => ?_)
    · refine lv_bipush (v := (-2)) hx hb dX4_steam_32 (by decide) ?_
      exact hend _ _ _ _ _ (by rw [← hr, r_X4_steam, if_neg c1, if_pos c2]) hP hS dX4_steam_34
    · refine lv_iload_n hx hb dX4_steam_21 rfl (lv_at hl 3 rfl) ?_
      refine lv_iconst (v := 0) hx hb dX4_steam_22 (by decide) ?_
      refine lv_sipush (v := 20000) hx hb dX4_steam_23 (by decide) ?_
      refine go_i (ws' := [xc ax ar al at_ ah X, rc ar av, ac cI av 11 R]) C (rn_S (As := [.int p0, .int 0, .int 20000]) (rest := []) C (c_X4_within l D cI p0 0 20000 H.size) ck_X4_within wd_1_156 wd_1_155 ⟨Nat.le_of_ble_eq_true rfl, Nat.le_of_ble_eq_true rfl⟩ ⟨Nat.le_refl _, Nat.le_refl _⟩ hP hD hS [] rfl rfl hl rfl (Nat.le_of_ble_eq_true rfl) dX4_steam_26) hP hD hS [] rfl rfl rfl (fun H locs hP hD hS => ?_)
      refine lv_if_ne (tgt := 35) hx hb dX4_steam_29 (by decide) (fun c3 => ?_) (fun c3 => ?_)
      · refine lv_iload_n hx hb dX4_steam_35 rfl (lv_at hl 1 rfl) ?_
        refine lv_aload_n hx hb dX4_steam_36 rfl (lv_at hl 0 rfl) ?_
        refine kget (v := .ref ar) C hP igX4 rfl 0 (by decide) wd_1_120 0 rfl rfl dX4_steam_37 ?_
        refine lv_iload_n hx hb dX4_steam_40 rfl (lv_at hl 2 rfl) ?_
        refine go_i (ws' := [xc ax ar al at_ ah X, rc ar av, ac cI av 11 R]) C (rn_V (As := [.int dd]) (rest := [.int t]) C (c_X3_bars l D cI ar av R dd H.size) ck_X3_bars wd_1_199 wd_1_200 wd_1_198 ⟨Nat.le_of_ble_eq_true rfl, Nat.le_of_ble_eq_true rfl⟩ ⟨Nat.le_refl _, Nat.le_refl _⟩ (ci := 3) (q0 := 1) rfl rfl hP hD hS [1, 2] rfl rfl hl rfl (Nat.le_of_ble_eq_true rfl) dX4_steam_41) hP hD hS [1, 2] rfl rfl rfl (fun H locs hP hD hS => ?_)
        refine lv_iload_n hx hb dX4_steam_44 rfl (lv_at hl 3 rfl) ?_
        refine go_i (ws' := [xc ax ar al at_ ah X, rc ar av, ac cI av 11 R]) C (rn_S (As := [.int t, .int (r_X3_bars R dd), .int p0]) (rest := []) C (c_X4_steamAt l D cI t (r_X3_bars R dd) p0 H.size) ck_X4_steamAt wd_1_203 wd_1_202 ⟨Nat.le_of_ble_eq_true rfl, Nat.le_of_ble_eq_true rfl⟩ ⟨Nat.le_refl _, Nat.le_refl _⟩ hP hD hS [] rfl rfl hl rfl (Nat.le_of_ble_eq_true rfl) dX4_steam_45) hP hD hS [] rfl rfl rfl (fun H locs hP hD hS => ?_)
        exact hend _ _ _ _ _ (by rw [← hr, r_X4_steam, if_neg c1, if_neg c2, if_neg c3]) hP hS dX4_steam_48
      · refine lv_bipush (v := (-2)) hx hb dX4_steam_32 (by decide) ?_
        exact hend _ _ _ _ _ (by rw [← hr, r_X4_steam, if_neg c1, if_neg c2, if_pos c3]) hP hS dX4_steam_34
def r_X4_rim (X : Nat → Int32) (k : Int32) : Int32 := (if (r_X4_within k 0 ((r_X4_places X) - 1)) = 0 then (-1) else (if (r_X4_isAtRim X k) = 0 then 0 else 1))
theorem ck_X4_rim : CK yX4_rim cX4_rim 2 (some .int) 1 := ⟨wd_1_214, wd_1_1, by decide, by decide, by decide +kernel⟩
set_option maxHeartbeats 4000000 in
set_option maxRecDepth 100000 in
theorem c_X4_rim (l : Launch) (D : va_G) (cI : ClassId) (ax : Nat) (ar : Nat) (al : Nat) (at_ : Nat) (ah : Nat) (X : Nat → Int32) (k : Int32) : MI l D cI yX4_rim cX4_rim 2 (some .int) 2 44 [.ref ax, .int k] [xc ax ar al at_ ah X] (r_X4_rim X k) [xc ax ar al at_ ah X] := by
  generalize hr : (r_X4_rim X k) = r
  refine MI.mk (own := RX4) rfl (by decide) rfl (Nat.le_of_ble_eq_true rfl) ?_
  intro p e s m args below meth c A Q C hD hend H locs ls hP hS hl
  have hx := C.1.1
  have hb := C.1.2.1
  have hl : lv_has ls 2 [(0, .ref ax), (1, .int k)] := hl
  refine lv_iload_n hx hb dX4_rim_0 rfl (lv_at hl 1 rfl) ?_
  refine lv_iconst (v := 0) hx hb dX4_rim_1 (by decide) ?_
  refine lv_aload_n hx hb dX4_rim_2 rfl (lv_at hl 0 rfl) ?_
  refine go_i (ws' := [xc ax ar al at_ ah X]) C (rn_V (As := []) (rest := [.int 0, .int k]) C (c_X4_places l D cI ax ar al at_ ah X H.size) ck_X4_places wd_1_160 wd_0_0 wd_1_158 ⟨Nat.le_of_ble_eq_true rfl, Nat.le_of_ble_eq_true rfl⟩ ⟨Nat.le_refl _, Nat.le_refl _⟩ (ci := 4) (q0 := 0) rfl rfl hP hD hS [0] rfl rfl hl rfl (Nat.le_of_ble_eq_true rfl) dX4_rim_3) hP hD hS [0] rfl rfl rfl (fun H locs hP hD hS => ?_)
  refine lv_iconst (v := 1) hx hb dX4_rim_6 (by decide) ?_
  refine lv_isub hx hb dX4_rim_7 ?_
  refine go_i (ws' := [xc ax ar al at_ ah X]) C (rn_S (As := [.int k, .int 0, .int ((r_X4_places X) - 1)]) (rest := []) C (c_X4_within l D cI k 0 ((r_X4_places X) - 1) H.size) ck_X4_within wd_1_156 wd_1_155 ⟨Nat.le_of_ble_eq_true rfl, Nat.le_of_ble_eq_true rfl⟩ ⟨Nat.le_refl _, Nat.le_refl _⟩ hP hD hS [] rfl rfl hl rfl (Nat.le_of_ble_eq_true rfl) dX4_rim_8) hP hD hS [] rfl rfl rfl (fun H locs hP hD hS => ?_)
  refine lv_if_ne (tgt := 16) hx hb dX4_rim_11 (by decide) (fun c1 => ?_) (fun c1 => ?_)
  · refine lv_aload_n hx hb dX4_rim_16 rfl (lv_at hl 0 rfl) ?_
    refine lv_iload_n hx hb dX4_rim_17 rfl (lv_at hl 1 rfl) ?_
    refine go_i (ws' := [xc ax ar al at_ ah X]) C (rn_V (As := [.int k]) (rest := []) C (c_X4_isAtRim l D cI ax ar al at_ ah X k H.size) ck_X4_isAtRim wd_1_217 wd_0_1 wd_1_215 ⟨Nat.le_of_ble_eq_true rfl, Nat.le_of_ble_eq_true rfl⟩ ⟨Nat.le_refl _, Nat.le_refl _⟩ (ci := 4) (q0 := 0) rfl rfl hP hD hS [0] rfl rfl hl rfl (Nat.le_of_ble_eq_true rfl) dX4_rim_18) hP hD hS [0] rfl rfl rfl (fun H locs hP hD hS => ?_)
    refine lv_if_eq (tgt := 28) hx hb dX4_rim_21 (by decide) (fun c2 => ?_) (fun c2 => ?_)
    · refine lv_iconst (v := 0) hx hb dX4_rim_28 (by decide) ?_
      exact hend _ _ _ _ _ (by rw [← hr, r_X4_rim, if_neg c1, if_pos c2]) hP hS dX4_rim_29
    · refine lv_iconst (v := 1) hx hb dX4_rim_24 (by decide) ?_
      refine lv_goto (tgt := 29) hx hb dX4_rim_25 (by decide) ?_
      exact hend _ _ _ _ _ (by rw [← hr, r_X4_rim, if_neg c1, if_neg c2]) hP hS dX4_rim_29
  · refine lv_iconst (v := (-1)) hx hb dX4_rim_14 (by decide) ?_
    exact hend _ _ _ _ _ (by rw [← hr, r_X4_rim, if_pos c1]) hP hS dX4_rim_15
def r_X4_load (X : Nat → Int32) : Int32 := (if (X 8) = 0 then (r_X4_places (x10 (X 4) (X 5) (X 6) (X 7) 1 (X 9))) else (-3))
def q_X4_load_X (X : Nat → Int32) : Nat → Int32 := (if (X 8) = 0 then (x10 (X 4) (X 5) (X 6) (X 7) 1 (X 9)) else X)
def q_X4_load_L (X : Nat → Int32) (L : Nat → Int32) : Nat → Int32 := (if (X 8) = 0 then (q_X2_start_L (X 7)) else L)
def q_X4_load_G (X : Nat → Int32) (R : Nat → Int32) (G : Nat → Int32) : Nat → Int32 := (if (X 8) = 0 then (q_X2_start_G R (X 4) (X 5)) else G)
def q_X4_load_I (X : Nat → Int32) (R : Nat → Int32) (I : Nat → Int32) : Nat → Int32 := (if (X 8) = 0 then (q_X2_start_I R (X 4) (X 5)) else I)
def q_X4_load_o1 (X : Nat → Int32) (o1 : Nat → Int32) : Nat → Int32 := (if (X 8) = 0 then (q_X1_note_o1 o1 (q_X2_start_L (X 7))) else o1)
def q_X4_load_o2 (X : Nat → Int32) (R : Nat → Int32) (o2 : Nat → Int32) : Nat → Int32 := (if (X 8) = 0 then (q_X1_note_o2 o2 (q_X2_start_L (X 7)) R) else o2)
def q_X4_load_o3 (X : Nat → Int32) (R : Nat → Int32) (o3 : Nat → Int32) : Nat → Int32 := (if (X 8) = 0 then (q_X1_note_o3 o3 (q_X2_start_L (X 7)) (q_X2_start_G R (X 4) (X 5)) (q_X2_start_I R (X 4) (X 5))) else o3)
theorem ck_X4_load : CK yX4_load cX4_load 1 (some .int) 0 := ⟨wd_1_222, wd_1_1, by decide, by decide, by decide +kernel⟩
set_option maxHeartbeats 4000000 in
set_option maxRecDepth 100000 in
theorem c_X4_load (l : Launch) (D : va_G) (cI : ClassId) (ax : Nat) (ar : Nat) (al : Nat) (at_ : Nat) (ah : Nat) (X : Nat → Int32) (av : Nat) (R : Nat → Int32) (ag : Nat) (ai : Nat) (L : Nat → Int32) (G : Nat → Int32) (I : Nat → Int32) (a1 : Nat) (a2 : Nat) (a3 : Nat) (o1 : Nat → Int32) (o2 : Nat → Int32) (o3 : Nat → Int32) : MI l D cI yX4_load cX4_load 1 (some .int) 5 108 [.ref ax] [xc ax ar al at_ ah X, rc ar av, ac cI av 11 R, lc al ag ai L, gc ag G, gc ai I, hc ah a1 a2 a3, ac cI a1 2001 o1, ac cI a2 2001 o2, ac cI a3 2001 o3] (r_X4_load X) [xc ax ar al at_ ah (q_X4_load_X X), rc ar av, ac cI av 11 R, lc al ag ai (q_X4_load_L X L), gc ag (q_X4_load_G X R G), gc ai (q_X4_load_I X R I), hc ah a1 a2 a3, ac cI a1 2001 (q_X4_load_o1 X o1), ac cI a2 2001 (q_X4_load_o2 X R o2), ac cI a3 2001 (q_X4_load_o3 X R o3)] := by
  generalize hr : (r_X4_load X) = r
  generalize ho_X : (q_X4_load_X X) = o_X
  generalize ho_L : (q_X4_load_L X L) = o_L
  generalize ho_G : (q_X4_load_G X R G) = o_G
  generalize ho_I : (q_X4_load_I X R I) = o_I
  generalize ho_o1 : (q_X4_load_o1 X o1) = o_o1
  generalize ho_o2 : (q_X4_load_o2 X R o2) = o_o2
  generalize ho_o3 : (q_X4_load_o3 X R o3) = o_o3
  refine MI.mk (own := RX4) rfl (by decide) rfl (Nat.le_of_ble_eq_true rfl) ?_
  intro p e s m args below meth c A Q C hD hend H locs ls hP hS hl
  have hx := C.1.1
  have hb := C.1.2.1
  have hl : lv_has ls 1 [(0, .ref ax)] := hl
  refine lv_aload_n hx hb dX4_load_0 rfl (lv_at hl 0 rfl) ?_
  refine kget (v := .int (X 8)) C hP igX4 rfl 8 (by decide) wd_1_128 0 rfl rfl dX4_load_1 ?_
  refine lv_if_eq (tgt := 10) hx hb dX4_load_4 (by decide) (fun c1 => ?_) (fun c1 => ?_)
  · refine lv_aload_n hx hb dX4_load_10 rfl (lv_at hl 0 rfl) ?_
    refine kget (v := .ref al) C hP igX4 rfl 1 (by decide) wd_1_121 0 rfl rfl dX4_load_11 ?_
    refine lv_aload_n hx hb dX4_load_14 rfl (lv_at hl 0 rfl) ?_
    refine kget (v := .ref ar) C hP igX4 rfl 0 (by decide) wd_1_120 0 rfl rfl dX4_load_15 ?_
    refine lv_aload_n hx hb dX4_load_18 rfl (lv_at hl 0 rfl) ?_
    refine kget (v := .int (X 4)) C hP igX4 rfl 4 (by decide) wd_1_124 0 rfl rfl dX4_load_19 ?_
    refine lv_aload_n hx hb dX4_load_22 rfl (lv_at hl 0 rfl) ?_
    refine kget (v := .int (X 5)) C hP igX4 rfl 5 (by decide) wd_1_125 0 rfl rfl dX4_load_23 ?_
    refine lv_aload_n hx hb dX4_load_26 rfl (lv_at hl 0 rfl) ?_
    refine kget (v := .int (X 7)) C hP igX4 rfl 7 (by decide) wd_1_127 0 rfl rfl dX4_load_27 ?_
    refine go_v (ws' := [xc ax ar al at_ ah X, rc ar av, ac cI av 11 R, lc al ag ai (q_X2_start_L (X 7)), gc ag (q_X2_start_G R (X 4) (X 5)), gc ai (q_X2_start_I R (X 4) (X 5)), hc ah a1 a2 a3, ac cI a1 2001 o1, ac cI a2 2001 o2, ac cI a3 2001 o3]) C (rn_V (As := [.ref ar, .int (X 4), .int (X 5), .int (X 7)]) (rest := []) C (c_X2_start l D cI al ag ai L G I ar av R (X 4) (X 5) (X 7) H.size) ck_X2_start wd_1_224 wd_1_225 wd_1_223 ⟨Nat.le_of_ble_eq_true rfl, Nat.le_of_ble_eq_true rfl⟩ ⟨Nat.le_refl _, Nat.le_refl _⟩ (ci := 2) (q0 := 3) rfl rfl hP hD hS [3, 4, 5, 1, 2] rfl rfl hl rfl (Nat.le_of_ble_eq_true rfl) dX4_load_30) hP hD hS [3, 4, 5, 1, 2] rfl rfl rfl (fun H locs hP hD hS => ?_)
    refine lv_aload_n hx hb dX4_load_33 rfl (lv_at hl 0 rfl) ?_
    refine kget (v := .ref ah) C hP igX4 rfl 3 (by decide) wd_1_123 0 rfl rfl dX4_load_34 ?_
    refine lv_aload_n hx hb dX4_load_37 rfl (lv_at hl 0 rfl) ?_
    refine kget (v := .ref al) C hP igX4 rfl 1 (by decide) wd_1_121 0 rfl rfl dX4_load_38 ?_
    refine lv_aload_n hx hb dX4_load_41 rfl (lv_at hl 0 rfl) ?_
    refine kget (v := .ref ar) C hP igX4 rfl 0 (by decide) wd_1_120 0 rfl rfl dX4_load_42 ?_
    refine go_v (ws' := [xc ax ar al at_ ah X, rc ar av, ac cI av 11 R, lc al ag ai (q_X2_start_L (X 7)), gc ag (q_X2_start_G R (X 4) (X 5)), gc ai (q_X2_start_I R (X 4) (X 5)), hc ah a1 a2 a3, ac cI a1 2001 (q_X1_note_o1 o1 (q_X2_start_L (X 7))), ac cI a2 2001 (q_X1_note_o2 o2 (q_X2_start_L (X 7)) R), ac cI a3 2001 (q_X1_note_o3 o3 (q_X2_start_L (X 7)) (q_X2_start_G R (X 4) (X 5)) (q_X2_start_I R (X 4) (X 5)))]) C (rn_V (As := [.ref al, .ref ar]) (rest := []) C (c_X1_note l D cI ah a1 a2 a3 o1 o2 o3 al ag ai (q_X2_start_L (X 7)) (q_X2_start_G R (X 4) (X 5)) (q_X2_start_I R (X 4) (X 5)) ar av R H.size) ck_X1_note wd_1_234 wd_1_235 wd_1_233 ⟨Nat.le_of_ble_eq_true rfl, Nat.le_of_ble_eq_true rfl⟩ ⟨Nat.le_refl _, Nat.le_refl _⟩ (ci := 1) (q0 := 6) rfl rfl hP hD hS [6, 7, 8, 9, 3, 4, 5, 1, 2] rfl rfl hl rfl (Nat.le_of_ble_eq_true rfl) dX4_load_45) hP hD hS [6, 7, 8, 9, 3, 4, 5, 1, 2] rfl rfl rfl (fun H locs hP hD hS => ?_)
    refine lv_aload_n hx hb dX4_load_48 rfl (lv_at hl 0 rfl) ?_
    refine lv_iconst (v := 1) hx hb dX4_load_49 (by decide) ?_
    refine kput (ty := .boolean) (ws' := [xc ax ar al at_ ah (x10 (X 4) (X 5) (X 6) (X 7) 1 (X 9)), rc ar av, ac cI av 11 R, lc al ag ai (q_X2_start_L (X 7)), gc ag (q_X2_start_G R (X 4) (X 5)), gc ai (q_X2_start_I R (X 4) (X 5)), hc ah a1 a2 a3, ac cI a1 2001 (q_X1_note_o1 o1 (q_X2_start_L (X 7))), ac cI a2 2001 (q_X1_note_o2 o2 (q_X2_start_L (X 7)) R), ac cI a3 2001 (q_X1_note_o3 o3 (q_X2_start_L (X 7)) (q_X2_start_G R (X 4) (X 5)) (q_X2_start_I R (X 4) (X 5)))]) C hP hD hS igX4 tyX4_ok nmX4 rfl 8 (by decide) wd_1_128 rfl rfl rfl rfl 0 rfl (Nat.le_of_ble_eq_true rfl) rfl dX4_load_50 (fun H locs hP hD hS => ?_)
    refine lv_aload_n hx hb dX4_load_53 rfl (lv_at hl 0 rfl) ?_
    refine go_i (ws' := [xc ax ar al at_ ah (x10 (X 4) (X 5) (X 6) (X 7) 1 (X 9)), rc ar av, ac cI av 11 R, lc al ag ai (q_X2_start_L (X 7)), gc ag (q_X2_start_G R (X 4) (X 5)), gc ai (q_X2_start_I R (X 4) (X 5)), hc ah a1 a2 a3, ac cI a1 2001 (q_X1_note_o1 o1 (q_X2_start_L (X 7))), ac cI a2 2001 (q_X1_note_o2 o2 (q_X2_start_L (X 7)) R), ac cI a3 2001 (q_X1_note_o3 o3 (q_X2_start_L (X 7)) (q_X2_start_G R (X 4) (X 5)) (q_X2_start_I R (X 4) (X 5)))]) C (rn_V (As := []) (rest := []) C (c_X4_places l D cI ax ar al at_ ah (x10 (X 4) (X 5) (X 6) (X 7) 1 (X 9)) H.size) ck_X4_places wd_1_160 wd_0_0 wd_1_158 ⟨Nat.le_of_ble_eq_true rfl, Nat.le_of_ble_eq_true rfl⟩ ⟨Nat.le_refl _, Nat.le_refl _⟩ (ci := 4) (q0 := 0) rfl rfl hP hD hS [0] rfl rfl hl rfl (Nat.le_of_ble_eq_true rfl) dX4_load_54) hP hD hS [0] rfl rfl rfl (fun H locs hP hD hS => ?_)
    exact hend _ _ _ _ _ (by rw [← hr, r_X4_load, if_pos c1]) (by rw [← ho_X, q_X4_load_X, if_pos c1, ← ho_L, q_X4_load_L, if_pos c1, ← ho_G, q_X4_load_G, if_pos c1, ← ho_I, q_X4_load_I, if_pos c1, ← ho_o1, q_X4_load_o1, if_pos c1, ← ho_o2, q_X4_load_o2, if_pos c1, ← ho_o3, q_X4_load_o3, if_pos c1]; exact hP) hS dX4_load_57
  · refine lv_bipush (v := (-3)) hx hb dX4_load_7 (by decide) ?_
    exact hend _ _ _ _ _ (by rw [← hr, r_X4_load, if_neg c1]) (by rw [← ho_X, q_X4_load_X, if_neg c1, ← ho_L, q_X4_load_L, if_neg c1, ← ho_G, q_X4_load_G, if_neg c1, ← ho_I, q_X4_load_I, if_neg c1, ← ho_o1, q_X4_load_o1, if_neg c1, ← ho_o2, q_X4_load_o2, if_neg c1, ← ho_o3, q_X4_load_o3, if_neg c1]; exact hP) hS dX4_load_9
def r_X4_warm (X : Nat → Int32) (t : Int32) : Int32 := (if (r_X4_within t (-600) 400) = 0 then (-10002) else (X 6))
def q_X4_warm_X (X : Nat → Int32) (t : Int32) : Nat → Int32 := (if (r_X4_within t (-600) 400) = 0 then X else (x10 (X 4) (X 5) t (X 7) (X 8) (X 9)))
theorem ck_X4_warm : CK yX4_warm cX4_warm 3 (some .int) 1 := ⟨wd_2_13, wd_1_1, by decide, by decide, by decide +kernel⟩
set_option maxHeartbeats 4000000 in
set_option maxRecDepth 100000 in
theorem c_X4_warm (l : Launch) (D : va_G) (cI : ClassId) (ax : Nat) (ar : Nat) (al : Nat) (at_ : Nat) (ah : Nat) (X : Nat → Int32) (t : Int32) : MI l D cI yX4_warm cX4_warm 3 (some .int) 1 22 [.ref ax, .int t] [xc ax ar al at_ ah X] (r_X4_warm X t) [xc ax ar al at_ ah (q_X4_warm_X X t)] := by
  generalize hr : (r_X4_warm X t) = r
  generalize ho_X : (q_X4_warm_X X t) = o_X
  refine MI.mk (own := RX4) rfl (by decide) rfl (Nat.le_of_ble_eq_true rfl) ?_
  intro p e s m args below meth c A Q C hD hend H locs ls hP hS hl
  have hx := C.1.1
  have hb := C.1.2.1
  have hl : lv_has ls 3 [(0, .ref ax), (1, .int t)] := hl
  refine lv_iload_n hx hb dX4_warm_0 rfl (lv_at hl 1 rfl) ?_
  refine lv_sipush (v := (-600)) hx hb dX4_warm_1 (by decide) ?_
  refine lv_sipush (v := 400) hx hb dX4_warm_4 (by decide) ?_
  refine go_i (ws' := [xc ax ar al at_ ah X]) C (rn_S (As := [.int t, .int (-600), .int 400]) (rest := []) C (c_X4_within l D cI t (-600) 400 H.size) ck_X4_within wd_1_156 wd_1_155 ⟨Nat.le_of_ble_eq_true rfl, Nat.le_of_ble_eq_true rfl⟩ ⟨Nat.le_refl _, Nat.le_refl _⟩ hP hD hS [] rfl rfl hl rfl (Nat.le_of_ble_eq_true rfl) dX4_warm_7) hP hD hS [] rfl rfl rfl (fun H locs hP hD hS => ?_)
  refine lv_if_ne (tgt := 17) hx hb dX4_warm_10 (by decide) (fun c1 => ?_) (fun c1 => ?_)
  · refine lv_aload_n hx hb dX4_warm_17 rfl (lv_at hl 0 rfl) ?_
    refine kget (v := .int (X 6)) C hP igX4 rfl 6 (by decide) wd_1_126 0 rfl rfl dX4_warm_18 ?_
    refine lv_istore_n (lv' := [(2, .int (X 6)), (0, .ref ax), (1, .int t)]) hx hb dX4_warm_21 rfl hl (by decide) rfl (fun ls hl => ?_)
    refine lv_aload_n hx hb dX4_warm_22 rfl (lv_at hl 1 rfl) ?_
    refine lv_iload_n hx hb dX4_warm_23 rfl (lv_at hl 2 rfl) ?_
    refine kput (ty := .int) (ws' := [xc ax ar al at_ ah (x10 (X 4) (X 5) t (X 7) (X 8) (X 9))]) C hP hD hS igX4 tyX4_ok nmX4 rfl 6 (by decide) wd_1_126 rfl rfl rfl rfl 0 rfl (Nat.le_of_ble_eq_true rfl) rfl dX4_warm_24 (fun H locs hP hD hS => ?_)
    refine lv_iload_n hx hb dX4_warm_27 rfl (lv_at hl 0 rfl) ?_
    exact hend _ _ _ _ _ (by rw [← hr, r_X4_warm, if_neg c1]) (by rw [← ho_X, q_X4_warm_X, if_neg c1]; exact hP) hS dX4_warm_28
  · refine lv_sipush (v := (-10002)) hx hb dX4_warm_13 (by decide) ?_
    exact hend _ _ _ _ _ (by rw [← hr, r_X4_warm, if_pos c1]) (by rw [← ho_X, q_X4_warm_X, if_pos c1]; exact hP) hS dX4_warm_16
def r_X4_set (X : Nat → Int32) (p0 : Int32) : Int32 := (if (r_X4_within p0 0 5000) = 0 then (-2) else (X 7))
def q_X4_set_X (X : Nat → Int32) (p0 : Int32) : Nat → Int32 := (if (r_X4_within p0 0 5000) = 0 then X else (x10 (X 4) (X 5) (X 6) p0 (X 8) (X 9)))
theorem ck_X4_set : CK yX4_set cX4_set 3 (some .int) 1 := ⟨wd_2_17, wd_1_1, by decide, by decide, by decide +kernel⟩
set_option maxHeartbeats 4000000 in
set_option maxRecDepth 100000 in
theorem c_X4_set (l : Launch) (D : va_G) (cI : ClassId) (ax : Nat) (ar : Nat) (al : Nat) (at_ : Nat) (ah : Nat) (X : Nat → Int32) (p0 : Int32) : MI l D cI yX4_set cX4_set 3 (some .int) 1 22 [.ref ax, .int p0] [xc ax ar al at_ ah X] (r_X4_set X p0) [xc ax ar al at_ ah (q_X4_set_X X p0)] := by
  generalize hr : (r_X4_set X p0) = r
  generalize ho_X : (q_X4_set_X X p0) = o_X
  refine MI.mk (own := RX4) rfl (by decide) rfl (Nat.le_of_ble_eq_true rfl) ?_
  intro p e s m args below meth c A Q C hD hend H locs ls hP hS hl
  have hx := C.1.1
  have hb := C.1.2.1
  have hl : lv_has ls 3 [(0, .ref ax), (1, .int p0)] := hl
  refine lv_iload_n hx hb dX4_set_0 rfl (lv_at hl 1 rfl) ?_
  refine lv_iconst (v := 0) hx hb dX4_set_1 (by decide) ?_
  refine lv_sipush (v := 5000) hx hb dX4_set_2 (by decide) ?_
  refine go_i (ws' := [xc ax ar al at_ ah X]) C (rn_S (As := [.int p0, .int 0, .int 5000]) (rest := []) C (c_X4_within l D cI p0 0 5000 H.size) ck_X4_within wd_1_156 wd_1_155 ⟨Nat.le_of_ble_eq_true rfl, Nat.le_of_ble_eq_true rfl⟩ ⟨Nat.le_refl _, Nat.le_refl _⟩ hP hD hS [] rfl rfl hl rfl (Nat.le_of_ble_eq_true rfl) dX4_set_5) hP hD hS [] rfl rfl rfl (fun H locs hP hD hS => ?_)
  refine lv_if_ne (tgt := 14) hx hb dX4_set_8 (by decide) (fun c1 => ?_) (fun c1 => ?_)
  · refine lv_aload_n hx hb dX4_set_14 rfl (lv_at hl 0 rfl) ?_
    refine kget (v := .int (X 7)) C hP igX4 rfl 7 (by decide) wd_1_127 0 rfl rfl dX4_set_15 ?_
    refine lv_istore_n (lv' := [(2, .int (X 7)), (0, .ref ax), (1, .int p0)]) hx hb dX4_set_18 rfl hl (by decide) rfl (fun ls hl => ?_)
    refine lv_aload_n hx hb dX4_set_19 rfl (lv_at hl 1 rfl) ?_
    refine lv_iload_n hx hb dX4_set_20 rfl (lv_at hl 2 rfl) ?_
    refine kput (ty := .int) (ws' := [xc ax ar al at_ ah (x10 (X 4) (X 5) (X 6) p0 (X 8) (X 9))]) C hP hD hS igX4 tyX4_ok nmX4 rfl 7 (by decide) wd_1_127 rfl rfl rfl rfl 0 rfl (Nat.le_of_ble_eq_true rfl) rfl dX4_set_21 (fun H locs hP hD hS => ?_)
    refine lv_iload_n hx hb dX4_set_24 rfl (lv_at hl 0 rfl) ?_
    exact hend _ _ _ _ _ (by rw [← hr, r_X4_set, if_neg c1]) (by rw [← ho_X, q_X4_set_X, if_neg c1]; exact hP) hS dX4_set_25
  · refine lv_bipush (v := (-2)) hx hb dX4_set_11 (by decide) ?_
    exact hend _ _ _ _ _ (by rw [← hr, r_X4_set, if_pos c1]) (by rw [← ho_X, q_X4_set_X, if_pos c1]; exact hP) hS dX4_set_13
noncomputable def lr_X4_run_41 (X : Nat → Int32) (R : Nat → Int32) (nn : Int32) : Nat → (Int32) → (Nat → Int32) → (Nat → Int32) → (Nat → Int32) → (Nat → Int32) → (Nat → Int32) → (Nat → Int32) → (Int32)
  | 0, _, _, _, _, _, _, _ => 0
  | n + 1, i, L, G, I, o1, o2, o3 => (if nn ≤ i then (L 2) else (lr_X4_run_41 X R nn n (i + 1) (q_X2_passMinute_L L G I R (X 6) (X 7)) (q_X2_passMinute_G L G R (X 6)) (q_X2_passMinute_I L I R (X 6)) (q_X1_note_o1 o1 (q_X2_passMinute_L L G I R (X 6) (X 7))) (q_X1_note_o2 o2 (q_X2_passMinute_L L G I R (X 6) (X 7)) R) (q_X1_note_o3 o3 (q_X2_passMinute_L L G I R (X 6) (X 7)) (q_X2_passMinute_G L G R (X 6)) (q_X2_passMinute_I L I R (X 6)))))
noncomputable def lq_X4_run_41_L (X : Nat → Int32) (R : Nat → Int32) (nn : Int32) : Nat → (Int32) → (Nat → Int32) → (Nat → Int32) → (Nat → Int32) → (Nat → Int32) → (Nat → Int32) → (Nat → Int32) → (Nat → Int32)
  | 0, _, _, _, _, _, _, _ => fun _ => 0
  | n + 1, i, L, G, I, o1, o2, o3 => (if nn ≤ i then L else (lq_X4_run_41_L X R nn n (i + 1) (q_X2_passMinute_L L G I R (X 6) (X 7)) (q_X2_passMinute_G L G R (X 6)) (q_X2_passMinute_I L I R (X 6)) (q_X1_note_o1 o1 (q_X2_passMinute_L L G I R (X 6) (X 7))) (q_X1_note_o2 o2 (q_X2_passMinute_L L G I R (X 6) (X 7)) R) (q_X1_note_o3 o3 (q_X2_passMinute_L L G I R (X 6) (X 7)) (q_X2_passMinute_G L G R (X 6)) (q_X2_passMinute_I L I R (X 6)))))
noncomputable def lq_X4_run_41_G (X : Nat → Int32) (R : Nat → Int32) (nn : Int32) : Nat → (Int32) → (Nat → Int32) → (Nat → Int32) → (Nat → Int32) → (Nat → Int32) → (Nat → Int32) → (Nat → Int32) → (Nat → Int32)
  | 0, _, _, _, _, _, _, _ => fun _ => 0
  | n + 1, i, L, G, I, o1, o2, o3 => (if nn ≤ i then G else (lq_X4_run_41_G X R nn n (i + 1) (q_X2_passMinute_L L G I R (X 6) (X 7)) (q_X2_passMinute_G L G R (X 6)) (q_X2_passMinute_I L I R (X 6)) (q_X1_note_o1 o1 (q_X2_passMinute_L L G I R (X 6) (X 7))) (q_X1_note_o2 o2 (q_X2_passMinute_L L G I R (X 6) (X 7)) R) (q_X1_note_o3 o3 (q_X2_passMinute_L L G I R (X 6) (X 7)) (q_X2_passMinute_G L G R (X 6)) (q_X2_passMinute_I L I R (X 6)))))
noncomputable def lq_X4_run_41_I (X : Nat → Int32) (R : Nat → Int32) (nn : Int32) : Nat → (Int32) → (Nat → Int32) → (Nat → Int32) → (Nat → Int32) → (Nat → Int32) → (Nat → Int32) → (Nat → Int32) → (Nat → Int32)
  | 0, _, _, _, _, _, _, _ => fun _ => 0
  | n + 1, i, L, G, I, o1, o2, o3 => (if nn ≤ i then I else (lq_X4_run_41_I X R nn n (i + 1) (q_X2_passMinute_L L G I R (X 6) (X 7)) (q_X2_passMinute_G L G R (X 6)) (q_X2_passMinute_I L I R (X 6)) (q_X1_note_o1 o1 (q_X2_passMinute_L L G I R (X 6) (X 7))) (q_X1_note_o2 o2 (q_X2_passMinute_L L G I R (X 6) (X 7)) R) (q_X1_note_o3 o3 (q_X2_passMinute_L L G I R (X 6) (X 7)) (q_X2_passMinute_G L G R (X 6)) (q_X2_passMinute_I L I R (X 6)))))
noncomputable def lq_X4_run_41_o1 (X : Nat → Int32) (R : Nat → Int32) (nn : Int32) : Nat → (Int32) → (Nat → Int32) → (Nat → Int32) → (Nat → Int32) → (Nat → Int32) → (Nat → Int32) → (Nat → Int32) → (Nat → Int32)
  | 0, _, _, _, _, _, _, _ => fun _ => 0
  | n + 1, i, L, G, I, o1, o2, o3 => (if nn ≤ i then o1 else (lq_X4_run_41_o1 X R nn n (i + 1) (q_X2_passMinute_L L G I R (X 6) (X 7)) (q_X2_passMinute_G L G R (X 6)) (q_X2_passMinute_I L I R (X 6)) (q_X1_note_o1 o1 (q_X2_passMinute_L L G I R (X 6) (X 7))) (q_X1_note_o2 o2 (q_X2_passMinute_L L G I R (X 6) (X 7)) R) (q_X1_note_o3 o3 (q_X2_passMinute_L L G I R (X 6) (X 7)) (q_X2_passMinute_G L G R (X 6)) (q_X2_passMinute_I L I R (X 6)))))
noncomputable def lq_X4_run_41_o2 (X : Nat → Int32) (R : Nat → Int32) (nn : Int32) : Nat → (Int32) → (Nat → Int32) → (Nat → Int32) → (Nat → Int32) → (Nat → Int32) → (Nat → Int32) → (Nat → Int32) → (Nat → Int32)
  | 0, _, _, _, _, _, _, _ => fun _ => 0
  | n + 1, i, L, G, I, o1, o2, o3 => (if nn ≤ i then o2 else (lq_X4_run_41_o2 X R nn n (i + 1) (q_X2_passMinute_L L G I R (X 6) (X 7)) (q_X2_passMinute_G L G R (X 6)) (q_X2_passMinute_I L I R (X 6)) (q_X1_note_o1 o1 (q_X2_passMinute_L L G I R (X 6) (X 7))) (q_X1_note_o2 o2 (q_X2_passMinute_L L G I R (X 6) (X 7)) R) (q_X1_note_o3 o3 (q_X2_passMinute_L L G I R (X 6) (X 7)) (q_X2_passMinute_G L G R (X 6)) (q_X2_passMinute_I L I R (X 6)))))
noncomputable def lq_X4_run_41_o3 (X : Nat → Int32) (R : Nat → Int32) (nn : Int32) : Nat → (Int32) → (Nat → Int32) → (Nat → Int32) → (Nat → Int32) → (Nat → Int32) → (Nat → Int32) → (Nat → Int32) → (Nat → Int32)
  | 0, _, _, _, _, _, _, _ => fun _ => 0
  | n + 1, i, L, G, I, o1, o2, o3 => (if nn ≤ i then o3 else (lq_X4_run_41_o3 X R nn n (i + 1) (q_X2_passMinute_L L G I R (X 6) (X 7)) (q_X2_passMinute_G L G R (X 6)) (q_X2_passMinute_I L I R (X 6)) (q_X1_note_o1 o1 (q_X2_passMinute_L L G I R (X 6) (X 7))) (q_X1_note_o2 o2 (q_X2_passMinute_L L G I R (X 6) (X 7)) R) (q_X1_note_o3 o3 (q_X2_passMinute_L L G I R (X 6) (X 7)) (q_X2_passMinute_G L G R (X 6)) (q_X2_passMinute_I L I R (X 6)))))
noncomputable def r_X4_run (X : Nat → Int32) (R : Nat → Int32) (L : Nat → Int32) (G : Nat → Int32) (I : Nat → Int32) (o1 : Nat → Int32) (o2 : Nat → Int32) (o3 : Nat → Int32) (nn : Int32) : Int32 := (if (r_X4_within nn 1 500) = 0 then (-2) else (if (X 8) = 0 then (-3) else (if ((L 2) + nn) ≤ 2000 then (lr_X4_run_41 X R nn (fu ((Int32.toInt nn).toNat + 1)) 0 L G I o1 o2 o3) else (-3))))
noncomputable def q_X4_run_L (X : Nat → Int32) (R : Nat → Int32) (L : Nat → Int32) (G : Nat → Int32) (I : Nat → Int32) (o1 : Nat → Int32) (o2 : Nat → Int32) (o3 : Nat → Int32) (nn : Int32) : Nat → Int32 := (if (r_X4_within nn 1 500) = 0 then L else (if (X 8) = 0 then L else (if ((L 2) + nn) ≤ 2000 then (lq_X4_run_41_L X R nn (fu ((Int32.toInt nn).toNat + 1)) 0 L G I o1 o2 o3) else L)))
noncomputable def q_X4_run_G (X : Nat → Int32) (R : Nat → Int32) (L : Nat → Int32) (G : Nat → Int32) (I : Nat → Int32) (o1 : Nat → Int32) (o2 : Nat → Int32) (o3 : Nat → Int32) (nn : Int32) : Nat → Int32 := (if (r_X4_within nn 1 500) = 0 then G else (if (X 8) = 0 then G else (if ((L 2) + nn) ≤ 2000 then (lq_X4_run_41_G X R nn (fu ((Int32.toInt nn).toNat + 1)) 0 L G I o1 o2 o3) else G)))
noncomputable def q_X4_run_I (X : Nat → Int32) (R : Nat → Int32) (L : Nat → Int32) (G : Nat → Int32) (I : Nat → Int32) (o1 : Nat → Int32) (o2 : Nat → Int32) (o3 : Nat → Int32) (nn : Int32) : Nat → Int32 := (if (r_X4_within nn 1 500) = 0 then I else (if (X 8) = 0 then I else (if ((L 2) + nn) ≤ 2000 then (lq_X4_run_41_I X R nn (fu ((Int32.toInt nn).toNat + 1)) 0 L G I o1 o2 o3) else I)))
noncomputable def q_X4_run_o1 (X : Nat → Int32) (R : Nat → Int32) (L : Nat → Int32) (G : Nat → Int32) (I : Nat → Int32) (o1 : Nat → Int32) (o2 : Nat → Int32) (o3 : Nat → Int32) (nn : Int32) : Nat → Int32 := (if (r_X4_within nn 1 500) = 0 then o1 else (if (X 8) = 0 then o1 else (if ((L 2) + nn) ≤ 2000 then (lq_X4_run_41_o1 X R nn (fu ((Int32.toInt nn).toNat + 1)) 0 L G I o1 o2 o3) else o1)))
noncomputable def q_X4_run_o2 (X : Nat → Int32) (R : Nat → Int32) (L : Nat → Int32) (G : Nat → Int32) (I : Nat → Int32) (o1 : Nat → Int32) (o2 : Nat → Int32) (o3 : Nat → Int32) (nn : Int32) : Nat → Int32 := (if (r_X4_within nn 1 500) = 0 then o2 else (if (X 8) = 0 then o2 else (if ((L 2) + nn) ≤ 2000 then (lq_X4_run_41_o2 X R nn (fu ((Int32.toInt nn).toNat + 1)) 0 L G I o1 o2 o3) else o2)))
noncomputable def q_X4_run_o3 (X : Nat → Int32) (R : Nat → Int32) (L : Nat → Int32) (G : Nat → Int32) (I : Nat → Int32) (o1 : Nat → Int32) (o2 : Nat → Int32) (o3 : Nat → Int32) (nn : Int32) : Nat → Int32 := (if (r_X4_within nn 1 500) = 0 then o3 else (if (X 8) = 0 then o3 else (if ((L 2) + nn) ≤ 2000 then (lq_X4_run_41_o3 X R nn (fu ((Int32.toInt nn).toNat + 1)) 0 L G I o1 o2 o3) else o3)))
theorem ck_X4_run : CK yX4_run cX4_run 3 (some .int) 1 := ⟨wd_2_21, wd_1_1, by decide, by decide, by decide +kernel⟩
set_option maxHeartbeats 4000000 in
set_option maxRecDepth 100000 in
theorem c_X4_run (l : Launch) (D : va_G) (cI : ClassId) (ax : Nat) (ar : Nat) (al : Nat) (at_ : Nat) (ah : Nat) (X : Nat → Int32) (av : Nat) (R : Nat → Int32) (ag : Nat) (ai : Nat) (L : Nat → Int32) (G : Nat → Int32) (I : Nat → Int32) (a1 : Nat) (a2 : Nat) (a3 : Nat) (o1 : Nat → Int32) (o2 : Nat → Int32) (o3 : Nat → Int32) (nn : Int32) : MI l D cI yX4_run cX4_run 3 (some .int) 5 125 [.ref ax, .int nn] [xc ax ar al at_ ah X, rc ar av, ac cI av 11 R, lc al ag ai L, gc ag G, gc ai I, hc ah a1 a2 a3, ac cI a1 2001 o1, ac cI a2 2001 o2, ac cI a3 2001 o3] (r_X4_run X R L G I o1 o2 o3 nn) [xc ax ar al at_ ah X, rc ar av, ac cI av 11 R, lc al ag ai (q_X4_run_L X R L G I o1 o2 o3 nn), gc ag (q_X4_run_G X R L G I o1 o2 o3 nn), gc ai (q_X4_run_I X R L G I o1 o2 o3 nn), hc ah a1 a2 a3, ac cI a1 2001 (q_X4_run_o1 X R L G I o1 o2 o3 nn), ac cI a2 2001 (q_X4_run_o2 X R L G I o1 o2 o3 nn), ac cI a3 2001 (q_X4_run_o3 X R L G I o1 o2 o3 nn)] := by
  generalize hr : (r_X4_run X R L G I o1 o2 o3 nn) = r
  generalize ho_L : (q_X4_run_L X R L G I o1 o2 o3 nn) = o_L
  generalize ho_G : (q_X4_run_G X R L G I o1 o2 o3 nn) = o_G
  generalize ho_I : (q_X4_run_I X R L G I o1 o2 o3 nn) = o_I
  generalize ho_o1 : (q_X4_run_o1 X R L G I o1 o2 o3 nn) = o_o1
  generalize ho_o2 : (q_X4_run_o2 X R L G I o1 o2 o3 nn) = o_o2
  generalize ho_o3 : (q_X4_run_o3 X R L G I o1 o2 o3 nn) = o_o3
  refine MI.mk (own := RX4) rfl (by decide) rfl (Nat.le_of_ble_eq_true rfl) ?_
  intro p e s m args below meth c A Q C hD hend H locs ls hP hS hl
  have hx := C.1.1
  have hb := C.1.2.1
  have hl : lv_has ls 3 [(0, .ref ax), (1, .int nn)] := hl
  refine lv_iload_n hx hb dX4_run_0 rfl (lv_at hl 1 rfl) ?_
  refine lv_iconst (v := 1) hx hb dX4_run_1 (by decide) ?_
  refine lv_sipush (v := 500) hx hb dX4_run_2 (by decide) ?_
  refine go_i (ws' := [xc ax ar al at_ ah X, rc ar av, ac cI av 11 R, lc al ag ai L, gc ag G, gc ai I, hc ah a1 a2 a3, ac cI a1 2001 o1, ac cI a2 2001 o2, ac cI a3 2001 o3]) C (rn_S (As := [.int nn, .int 1, .int 500]) (rest := []) C (c_X4_within l D cI nn 1 500 H.size) ck_X4_within wd_1_156 wd_1_155 ⟨Nat.le_of_ble_eq_true rfl, Nat.le_of_ble_eq_true rfl⟩ ⟨Nat.le_refl _, Nat.le_refl _⟩ hP hD hS [] rfl rfl hl rfl (Nat.le_of_ble_eq_true rfl) dX4_run_5) hP hD hS [] rfl rfl rfl (fun H locs hP hD hS => ?_)
  refine lv_if_ne (tgt := 14) hx hb dX4_run_8 (by decide) (fun c1 => ?_) (fun c1 => ?_)
  · refine lv_aload_n hx hb dX4_run_14 rfl (lv_at hl 0 rfl) ?_
    refine kget (v := .int (X 8)) C hP igX4 rfl 8 (by decide) wd_1_128 0 rfl rfl dX4_run_15 ?_
    refine lv_if_eq (tgt := 36) hx hb dX4_run_18 (by decide) (fun c2 => ?_) (fun c2 => ?_)
    · refine lv_bipush (v := (-3)) hx hb dX4_run_36 (by decide) ?_
      exact hend _ _ _ _ _ (by rw [← hr, r_X4_run, if_neg c1, if_pos c2]) (by rw [← ho_L, q_X4_run_L, if_neg c1, if_pos c2, ← ho_G, q_X4_run_G, if_neg c1, if_pos c2, ← ho_I, q_X4_run_I, if_neg c1, if_pos c2, ← ho_o1, q_X4_run_o1, if_neg c1, if_pos c2, ← ho_o2, q_X4_run_o2, if_neg c1, if_pos c2, ← ho_o3, q_X4_run_o3, if_neg c1, if_pos c2]; exact hP) hS dX4_run_38
    · refine lv_aload_n hx hb dX4_run_21 rfl (lv_at hl 0 rfl) ?_
      refine kget (v := .ref al) C hP igX4 rfl 1 (by decide) wd_1_121 0 rfl rfl dX4_run_22 ?_
      refine kget (v := .int (L 2)) C hP igX2 rfl 2 (by decide) wd_1_82 3 rfl rfl dX4_run_25 ?_
      refine lv_iload_n hx hb dX4_run_28 rfl (lv_at hl 1 rfl) ?_
      refine lv_iadd hx hb dX4_run_29 ?_
      refine lv_sipush (v := 2000) hx hb dX4_run_30 (by decide) ?_
      refine lv_icmp_le (tgt := 39) hx hb dX4_run_33 (by decide) (fun c3 => ?_) (fun c3 => ?_)
      · refine lv_iconst (v := 0) hx hb dX4_run_39 (by decide) ?_
        refine lv_istore_n (lv' := [(2, .int 0), (0, .ref ax), (1, .int nn)]) hx hb dX4_run_40 rfl hl (by decide) rfl (fun ls hl => ?_)
        have lp41 : ∀ (n : Nat) (i : Int32) (L : Nat → Int32) (G : Nat → Int32) (I : Nat → Int32) (o1 : Nat → Int32) (o2 : Nat → Int32) (o3 : Nat → Int32), (Int32.toInt nn - Int32.toInt i).toNat < n → lr_X4_run_41 X R nn n i L G I o1 o2 o3 = r → lq_X4_run_41_L X R nn n i L G I o1 o2 o3 = o_L → lq_X4_run_41_G X R nn n i L G I o1 o2 o3 = o_G → lq_X4_run_41_I X R nn n i L G I o1 o2 o3 = o_I → lq_X4_run_41_o1 X R nn n i L G I o1 o2 o3 = o_o1 → lq_X4_run_41_o2 X R nn n i L G I o1 o2 o3 = o_o2 → lq_X4_run_41_o3 X R nn n i L G I o1 o2 o3 = o_o3 → ∀ (ls : Array Slot) (H : Heap) (locs : List Loc), lv_has ls 3 [(0, .ref ax), (1, .int nn), (2, .int i)] → va_P D vwCl [xc ax ar al at_ ah X, rc ar av, ac cI av 11 R, lc al ag ai L, gc ag G, gc ai I, hc ah a1 a2 a3, ac cI a1 2001 o1, ac cI a2 2001 o2, ac cI a3 2001 o3] H → va_D A [xc ax ar al at_ ah X, rc ar av, ac cI av 11 R, lc al ag ai L, gc ag G, gc ai I, hc ah a1 a2 a3, ac cI a1 2001 o1, ac cI a2 2001 o2, ac cI a3 2001 o3] → va_S A s.heap H locs → W p l e (RM 5 125) s m args below meth c H locs 0 0 Q (F0 m 41 ls []) := by
          clear hl hP hD hS
          intro n
          induction n with
          | zero =>
            intro i L G I o1 o2 o3  hm
            exact absurd hm (Nat.not_lt_zero _)
          | succ n ih =>
            intro i L G I o1 o2 o3  hm hr ho_L ho_G ho_I ho_o1 ho_o2 ho_o3 ls H locs hl hP hD hS
            refine lv_iload_n hx hb dX4_run_41 rfl (lv_at hl 2 rfl) ?_
            refine lv_iload_n hx hb dX4_run_42 rfl (lv_at hl 1 rfl) ?_
            refine lv_icmp_ge (tgt := 86) hx hb dX4_run_43 (by decide) (fun c4 => ?_) (fun c4 => ?_)
            · refine lv_aload_n hx hb dX4_run_86 rfl (lv_at hl 0 rfl) ?_
              refine kget (v := .ref al) C hP igX4 rfl 1 (by decide) wd_1_121 0 rfl rfl dX4_run_87 ?_
              refine kget (v := .int (L 2)) C hP igX2 rfl 2 (by decide) wd_1_82 3 rfl rfl dX4_run_90 ?_
              exact hend _ _ _ _ _ (by rw [← hr, lr_X4_run_41, if_pos c4]) (by rw [← ho_L, lq_X4_run_41_L, if_pos c4, ← ho_G, lq_X4_run_41_G, if_pos c4, ← ho_I, lq_X4_run_41_I, if_pos c4, ← ho_o1, lq_X4_run_41_o1, if_pos c4, ← ho_o2, lq_X4_run_41_o2, if_pos c4, ← ho_o3, lq_X4_run_41_o3, if_pos c4]; exact hP) hS dX4_run_93
            · refine lv_aload_n hx hb dX4_run_46 rfl (lv_at hl 0 rfl) ?_
              refine kget (v := .ref al) C hP igX4 rfl 1 (by decide) wd_1_121 0 rfl rfl dX4_run_47 ?_
              refine lv_aload_n hx hb dX4_run_50 rfl (lv_at hl 0 rfl) ?_
              refine kget (v := .ref ar) C hP igX4 rfl 0 (by decide) wd_1_120 0 rfl rfl dX4_run_51 ?_
              refine lv_aload_n hx hb dX4_run_54 rfl (lv_at hl 0 rfl) ?_
              refine kget (v := .int (X 6)) C hP igX4 rfl 6 (by decide) wd_1_126 0 rfl rfl dX4_run_55 ?_
              refine lv_aload_n hx hb dX4_run_58 rfl (lv_at hl 0 rfl) ?_
              refine kget (v := .int (X 7)) C hP igX4 rfl 7 (by decide) wd_1_127 0 rfl rfl dX4_run_59 ?_
              refine go_v (ws' := [xc ax ar al at_ ah X, rc ar av, ac cI av 11 R, lc al ag ai (q_X2_passMinute_L L G I R (X 6) (X 7)), gc ag (q_X2_passMinute_G L G R (X 6)), gc ai (q_X2_passMinute_I L I R (X 6)), hc ah a1 a2 a3, ac cI a1 2001 o1, ac cI a2 2001 o2, ac cI a3 2001 o3]) C (rn_V (As := [.ref ar, .int (X 6), .int (X 7)]) (rest := []) C (c_X2_passMinute l D cI al ag ai L G I ar av R (X 6) (X 7) H.size) ck_X2_passMinute wd_2_23 wd_2_24 wd_2_22 ⟨Nat.le_of_ble_eq_true rfl, Nat.le_of_ble_eq_true rfl⟩ ⟨Nat.le_refl _, Nat.le_refl _⟩ (ci := 2) (q0 := 3) rfl rfl hP hD hS [3, 4, 5, 1, 2] rfl rfl hl rfl (Nat.le_of_ble_eq_true rfl) dX4_run_62) hP hD hS [3, 4, 5, 1, 2] rfl rfl rfl (fun H locs hP hD hS => ?_)
              refine lv_aload_n hx hb dX4_run_65 rfl (lv_at hl 0 rfl) ?_
              refine kget (v := .ref ah) C hP igX4 rfl 3 (by decide) wd_1_123 0 rfl rfl dX4_run_66 ?_
              refine lv_aload_n hx hb dX4_run_69 rfl (lv_at hl 0 rfl) ?_
              refine kget (v := .ref al) C hP igX4 rfl 1 (by decide) wd_1_121 0 rfl rfl dX4_run_70 ?_
              refine lv_aload_n hx hb dX4_run_73 rfl (lv_at hl 0 rfl) ?_
              refine kget (v := .ref ar) C hP igX4 rfl 0 (by decide) wd_1_120 0 rfl rfl dX4_run_74 ?_
              refine go_v (ws' := [xc ax ar al at_ ah X, rc ar av, ac cI av 11 R, lc al ag ai (q_X2_passMinute_L L G I R (X 6) (X 7)), gc ag (q_X2_passMinute_G L G R (X 6)), gc ai (q_X2_passMinute_I L I R (X 6)), hc ah a1 a2 a3, ac cI a1 2001 (q_X1_note_o1 o1 (q_X2_passMinute_L L G I R (X 6) (X 7))), ac cI a2 2001 (q_X1_note_o2 o2 (q_X2_passMinute_L L G I R (X 6) (X 7)) R), ac cI a3 2001 (q_X1_note_o3 o3 (q_X2_passMinute_L L G I R (X 6) (X 7)) (q_X2_passMinute_G L G R (X 6)) (q_X2_passMinute_I L I R (X 6)))]) C (rn_V (As := [.ref al, .ref ar]) (rest := []) C (c_X1_note l D cI ah a1 a2 a3 o1 o2 o3 al ag ai (q_X2_passMinute_L L G I R (X 6) (X 7)) (q_X2_passMinute_G L G R (X 6)) (q_X2_passMinute_I L I R (X 6)) ar av R H.size) ck_X1_note wd_1_234 wd_1_235 wd_1_233 ⟨Nat.le_of_ble_eq_true rfl, Nat.le_of_ble_eq_true rfl⟩ ⟨Nat.le_refl _, Nat.le_refl _⟩ (ci := 1) (q0 := 6) rfl rfl hP hD hS [6, 7, 8, 9, 3, 4, 5, 1, 2] rfl rfl hl rfl (Nat.le_of_ble_eq_true rfl) dX4_run_77) hP hD hS [6, 7, 8, 9, 3, 4, 5, 1, 2] rfl rfl rfl (fun H locs hP hD hS => ?_)
              refine lv_iinc (v := (i + 1)) (lv' := [(2, .int (i + 1)), (0, .ref ax), (1, .int nn)]) hx hb dX4_run_80 hl (k := 2) rfl rfl (by decide) rfl (fun ls hl => ?_)
              refine lv_goto (tgt := 41) hx hb dX4_run_83 (by decide) ?_
              exact ih (i + 1) (q_X2_passMinute_L L G I R (X 6) (X 7)) (q_X2_passMinute_G L G R (X 6)) (q_X2_passMinute_I L I R (X 6)) (q_X1_note_o1 o1 (q_X2_passMinute_L L G I R (X 6) (X 7))) (q_X1_note_o2 o2 (q_X2_passMinute_L L G I R (X 6) (X 7)) R) (q_X1_note_o3 o3 (q_X2_passMinute_L L G I R (X 6) (X 7)) (q_X2_passMinute_G L G R (X 6)) (q_X2_passMinute_I L I R (X 6)))  (cnt2_lt c4 hm) (by rw [← hr, lr_X4_run_41, if_neg c4]) (by rw [← ho_L, lq_X4_run_41_L, if_neg c4]) (by rw [← ho_G, lq_X4_run_41_G, if_neg c4]) (by rw [← ho_I, lq_X4_run_41_I, if_neg c4]) (by rw [← ho_o1, lq_X4_run_41_o1, if_neg c4]) (by rw [← ho_o2, lq_X4_run_41_o2, if_neg c4]) (by rw [← ho_o3, lq_X4_run_41_o3, if_neg c4]) ls H locs (lv_sub hl [1, 2, 0] rfl) hP hD hS
        exact lp41 (fu ((Int32.toInt nn).toNat + 1)) 0 L G I o1 o2 o3  (by rw [fu_eq]; have e0 : (0 : Int32).toInt = 0 := rfl; omega) (by rw [← hr, r_X4_run, if_neg c1, if_neg c2, if_pos c3]) (by rw [← ho_L, q_X4_run_L, if_neg c1, if_neg c2, if_pos c3]) (by rw [← ho_G, q_X4_run_G, if_neg c1, if_neg c2, if_pos c3]) (by rw [← ho_I, q_X4_run_I, if_neg c1, if_neg c2, if_pos c3]) (by rw [← ho_o1, q_X4_run_o1, if_neg c1, if_neg c2, if_pos c3]) (by rw [← ho_o2, q_X4_run_o2, if_neg c1, if_neg c2, if_pos c3]) (by rw [← ho_o3, q_X4_run_o3, if_neg c1, if_neg c2, if_pos c3]) ls H locs (lv_sub hl [1, 2, 0] rfl) hP hD hS
      · refine lv_bipush (v := (-3)) hx hb dX4_run_36 (by decide) ?_
        exact hend _ _ _ _ _ (by rw [← hr, r_X4_run, if_neg c1, if_neg c2, if_neg c3]) (by rw [← ho_L, q_X4_run_L, if_neg c1, if_neg c2, if_neg c3, ← ho_G, q_X4_run_G, if_neg c1, if_neg c2, if_neg c3, ← ho_I, q_X4_run_I, if_neg c1, if_neg c2, if_neg c3, ← ho_o1, q_X4_run_o1, if_neg c1, if_neg c2, if_neg c3, ← ho_o2, q_X4_run_o2, if_neg c1, if_neg c2, if_neg c3, ← ho_o3, q_X4_run_o3, if_neg c1, if_neg c2, if_neg c3]; exact hP) hS dX4_run_38
  · refine lv_bipush (v := (-2)) hx hb dX4_run_11 (by decide) ?_
    exact hend _ _ _ _ _ (by rw [← hr, r_X4_run, if_pos c1]) (by rw [← ho_L, q_X4_run_L, if_pos c1, ← ho_G, q_X4_run_G, if_pos c1, ← ho_I, q_X4_run_I, if_pos c1, ← ho_o1, q_X4_run_o1, if_pos c1, ← ho_o2, q_X4_run_o2, if_pos c1, ← ho_o3, q_X4_run_o3, if_pos c1]; exact hP) hS dX4_run_13
def r_X4_unload (X : Nat → Int32) (G : Nat → Int32) (I : Nat → Int32) : Int32 := (if (X 8) = 0 then (-3) else (r_X2_vialsWithIce G I))
def q_X4_unload_X (X : Nat → Int32) : Nat → Int32 := (if (X 8) = 0 then X else (x10 (X 4) (X 5) (X 6) (X 7) 0 (X 9)))
theorem ck_X4_unload : CK yX4_unload cX4_unload 1 (some .int) 0 := ⟨wd_2_49, wd_1_1, by decide, by decide, by decide +kernel⟩
set_option maxHeartbeats 4000000 in
set_option maxRecDepth 100000 in
theorem c_X4_unload (l : Launch) (D : va_G) (cI : ClassId) (ax : Nat) (ar : Nat) (al : Nat) (at_ : Nat) (ah : Nat) (X : Nat → Int32) (ag : Nat) (ai : Nat) (L : Nat → Int32) (G : Nat → Int32) (I : Nat → Int32) : MI l D cI yX4_unload cX4_unload 1 (some .int) 1 20 [.ref ax] [xc ax ar al at_ ah X, lc al ag ai L, gc ag G, gc ai I] (r_X4_unload X G I) [xc ax ar al at_ ah (q_X4_unload_X X), lc al ag ai L, gc ag G, gc ai I] := by
  generalize hr : (r_X4_unload X G I) = r
  generalize ho_X : (q_X4_unload_X X) = o_X
  refine MI.mk (own := RX4) rfl (by decide) rfl (Nat.le_of_ble_eq_true rfl) ?_
  intro p e s m args below meth c A Q C hD hend H locs ls hP hS hl
  have hx := C.1.1
  have hb := C.1.2.1
  have hl : lv_has ls 1 [(0, .ref ax)] := hl
  refine lv_aload_n hx hb dX4_unload_0 rfl (lv_at hl 0 rfl) ?_
  refine kget (v := .int (X 8)) C hP igX4 rfl 8 (by decide) wd_1_128 0 rfl rfl dX4_unload_1 ?_
  refine lv_if_ne (tgt := 10) hx hb dX4_unload_4 (by decide) (fun c1 => ?_) (fun c1 => ?_)
  · refine lv_aload_n hx hb dX4_unload_10 rfl (lv_at hl 0 rfl) ?_
    refine lv_iconst (v := 0) hx hb dX4_unload_11 (by decide) ?_
    refine kput (ty := .boolean) (ws' := [xc ax ar al at_ ah (x10 (X 4) (X 5) (X 6) (X 7) 0 (X 9)), lc al ag ai L, gc ag G, gc ai I]) C hP hD hS igX4 tyX4_ok nmX4 rfl 8 (by decide) wd_1_128 rfl rfl rfl rfl 0 rfl (Nat.le_of_ble_eq_true rfl) rfl dX4_unload_12 (fun H locs hP hD hS => ?_)
    refine lv_aload_n hx hb dX4_unload_15 rfl (lv_at hl 0 rfl) ?_
    refine kget (v := .ref al) C hP igX4 rfl 1 (by decide) wd_1_121 0 rfl rfl dX4_unload_16 ?_
    refine go_i (ws' := [xc ax ar al at_ ah (x10 (X 4) (X 5) (X 6) (X 7) 0 (X 9)), lc al ag ai L, gc ag G, gc ai I]) C (rn_V (As := []) (rest := []) C (c_X2_vialsWithIce l D cI al ag ai L G I H.size) ck_X2_vialsWithIce wd_2_7 wd_2_8 wd_2_50 ⟨Nat.le_of_ble_eq_true rfl, Nat.le_of_ble_eq_true rfl⟩ ⟨Nat.le_refl _, Nat.le_refl _⟩ (ci := 2) (q0 := 1) rfl rfl hP hD hS [1, 2, 3] rfl rfl hl rfl (Nat.le_of_ble_eq_true rfl) dX4_unload_19) hP hD hS [1, 2, 3] rfl rfl rfl (fun H locs hP hD hS => ?_)
    exact hend _ _ _ _ _ (by rw [← hr, r_X4_unload, if_neg c1]) (by rw [← ho_X, q_X4_unload_X, if_neg c1]; exact hP) hS dX4_unload_22
  · refine lv_bipush (v := (-3)) hx hb dX4_unload_7 (by decide) ?_
    exact hend _ _ _ _ _ (by rw [← hr, r_X4_unload, if_pos c1]) (by rw [← ho_X, q_X4_unload_X, if_pos c1]; exact hP) hS dX4_unload_9
def r_X4_vial (X : Nat → Int32) (G : Nat → Int32) (I : Nat → Int32) (k : Int32) (wh : Int32) : Int32 := (if (X 8) = 0 then (-10003) else (if (r_X4_within k 0 ((r_X4_places X) - 1)) = 0 then (-10001) else (if (r_X4_within wh 0 4) = 0 then (-10002) else (if (r_X4_isAtRim X k) = 0 then (r_X0_tell I wh) else (r_X0_tell G wh)))))
theorem ck_X4_vial : CK yX4_vial cX4_vial 4 (some .int) 2 := ⟨wd_2_54, wd_1_1, by decide, by decide, by decide +kernel⟩
set_option maxHeartbeats 4000000 in
set_option maxRecDepth 100000 in
theorem c_X4_vial (l : Launch) (D : va_G) (cI : ClassId) (ax : Nat) (ar : Nat) (al : Nat) (at_ : Nat) (ah : Nat) (X : Nat → Int32) (ag : Nat) (ai : Nat) (L : Nat → Int32) (G : Nat → Int32) (I : Nat → Int32) (k : Int32) (wh : Int32) : MI l D cI yX4_vial cX4_vial 4 (some .int) 2 44 [.ref ax, .int k, .int wh] [xc ax ar al at_ ah X, lc al ag ai L, gc ag G, gc ai I] (r_X4_vial X G I k wh) [xc ax ar al at_ ah X, lc al ag ai L, gc ag G, gc ai I] := by
  generalize hr : (r_X4_vial X G I k wh) = r
  refine MI.mk (own := RX4) rfl (by decide) rfl (Nat.le_of_ble_eq_true rfl) ?_
  intro p e s m args below meth c A Q C hD hend H locs ls hP hS hl
  have hx := C.1.1
  have hb := C.1.2.1
  have hl : lv_has ls 4 [(0, .ref ax), (1, .int k), (2, .int wh)] := hl
  refine lv_aload_n hx hb dX4_vial_0 rfl (lv_at hl 0 rfl) ?_
  refine kget (v := .int (X 8)) C hP igX4 rfl 8 (by decide) wd_1_128 0 rfl rfl dX4_vial_1 ?_
  refine lv_if_ne (tgt := 11) hx hb dX4_vial_4 (by decide) (fun c1 => ?_) (fun c1 => ?_)
  · refine lv_iload_n hx hb dX4_vial_11 rfl (lv_at hl 1 rfl) ?_
    refine lv_iconst (v := 0) hx hb dX4_vial_12 (by decide) ?_
    refine lv_aload_n hx hb dX4_vial_13 rfl (lv_at hl 0 rfl) ?_
    refine go_i (ws' := [xc ax ar al at_ ah X, lc al ag ai L, gc ag G, gc ai I]) C (rn_V (As := []) (rest := [.int 0, .int k]) C (c_X4_places l D cI ax ar al at_ ah X H.size) ck_X4_places wd_1_160 wd_0_0 wd_1_158 ⟨Nat.le_of_ble_eq_true rfl, Nat.le_of_ble_eq_true rfl⟩ ⟨Nat.le_refl _, Nat.le_refl _⟩ (ci := 4) (q0 := 0) rfl rfl hP hD hS [0] rfl rfl hl rfl (Nat.le_of_ble_eq_true rfl) dX4_vial_14) hP hD hS [0] rfl rfl rfl (fun H locs hP hD hS => ?_)
    refine lv_iconst (v := 1) hx hb dX4_vial_17 (by decide) ?_
    refine lv_isub hx hb dX4_vial_18 ?_
    refine go_i (ws' := [xc ax ar al at_ ah X, lc al ag ai L, gc ag G, gc ai I]) C (rn_S (As := [.int k, .int 0, .int ((r_X4_places X) - 1)]) (rest := []) C (c_X4_within l D cI k 0 ((r_X4_places X) - 1) H.size) ck_X4_within wd_1_156 wd_1_155 ⟨Nat.le_of_ble_eq_true rfl, Nat.le_of_ble_eq_true rfl⟩ ⟨Nat.le_refl _, Nat.le_refl _⟩ hP hD hS [] rfl rfl hl rfl (Nat.le_of_ble_eq_true rfl) dX4_vial_19) hP hD hS [] rfl rfl rfl (fun H locs hP hD hS => ?_)
    refine lv_if_ne (tgt := 29) hx hb dX4_vial_22 (by decide) (fun c2 => ?_) (fun c2 => ?_)
    · refine lv_iload_n hx hb dX4_vial_29 rfl (lv_at hl 2 rfl) ?_
      refine lv_iconst (v := 0) hx hb dX4_vial_30 (by decide) ?_
      refine lv_iconst (v := 4) hx hb dX4_vial_31 (by decide) ?_
      refine go_i (ws' := [xc ax ar al at_ ah X, lc al ag ai L, gc ag G, gc ai I]) C (rn_S (As := [.int wh, .int 0, .int 4]) (rest := []) C (c_X4_within l D cI wh 0 4 H.size) ck_X4_within wd_1_156 wd_1_155 ⟨Nat.le_of_ble_eq_true rfl, Nat.le_of_ble_eq_true rfl⟩ ⟨Nat.le_refl _, Nat.le_refl _⟩ hP hD hS [] rfl rfl hl rfl (Nat.le_of_ble_eq_true rfl) dX4_vial_32) hP hD hS [] rfl rfl rfl (fun H locs hP hD hS => ?_)
      refine lv_if_ne (tgt := 42) hx hb dX4_vial_35 (by decide) (fun c3 => ?_) (fun c3 => ?_)
      · refine lv_aload_n hx hb dX4_vial_42 rfl (lv_at hl 0 rfl) ?_
        refine lv_iload_n hx hb dX4_vial_43 rfl (lv_at hl 1 rfl) ?_
        refine go_i (ws' := [xc ax ar al at_ ah X, lc al ag ai L, gc ag G, gc ai I]) C (rn_V (As := [.int k]) (rest := []) C (c_X4_isAtRim l D cI ax ar al at_ ah X k H.size) ck_X4_isAtRim wd_1_217 wd_0_1 wd_1_215 ⟨Nat.le_of_ble_eq_true rfl, Nat.le_of_ble_eq_true rfl⟩ ⟨Nat.le_refl _, Nat.le_refl _⟩ (ci := 4) (q0 := 0) rfl rfl hP hD hS [0] rfl rfl hl rfl (Nat.le_of_ble_eq_true rfl) dX4_vial_44) hP hD hS [0] rfl rfl rfl (fun H locs hP hD hS => ?_)
        refine lv_if_eq (tgt := 60) hx hb dX4_vial_47 (by decide) (fun c4 => ?_) (fun c4 => ?_)
        · refine lv_aload_n hx hb dX4_vial_60 rfl (lv_at hl 0 rfl) ?_
          refine kget (v := .ref al) C hP igX4 rfl 1 (by decide) wd_1_121 0 rfl rfl dX4_vial_61 ?_
          refine kget (v := .ref ai) C hP igX2 rfl 1 (by decide) wd_1_79 1 rfl rfl dX4_vial_64 ?_
          refine lv_astore_n (lv' := [(3, .ref ai), (0, .ref ax), (1, .int k), (2, .int wh)]) hx hb dX4_vial_67 rfl hl (by decide) rfl (fun ls hl => ?_)
          refine lv_aload_n hx hb dX4_vial_68 rfl (lv_at hl 0 rfl) ?_
          refine lv_iload_n hx hb dX4_vial_69 rfl (lv_at hl 3 rfl) ?_
          refine go_i (ws' := [xc ax ar al at_ ah X, lc al ag ai L, gc ag G, gc ai I]) C (rn_V (As := [.int wh]) (rest := []) C (c_X0_tell l D cI ai I wh H.size) ck_X0_tell wd_2_56 wd_2_57 wd_2_55 ⟨Nat.le_of_ble_eq_true rfl, Nat.le_of_ble_eq_true rfl⟩ ⟨Nat.le_refl _, Nat.le_refl _⟩ (ci := 0) (q0 := 3) rfl rfl hP hD hS [3] rfl rfl hl rfl (Nat.le_of_ble_eq_true rfl) dX4_vial_70) hP hD hS [3] rfl rfl rfl (fun H locs hP hD hS => ?_)
          exact hend _ _ _ _ _ (by rw [← hr, r_X4_vial, if_neg c1, if_neg c2, if_neg c3, if_pos c4]) hP hS dX4_vial_73
        · refine lv_aload_n hx hb dX4_vial_50 rfl (lv_at hl 0 rfl) ?_
          refine kget (v := .ref al) C hP igX4 rfl 1 (by decide) wd_1_121 0 rfl rfl dX4_vial_51 ?_
          refine kget (v := .ref ag) C hP igX2 rfl 0 (by decide) wd_1_77 1 rfl rfl dX4_vial_54 ?_
          refine lv_goto (tgt := 67) hx hb dX4_vial_57 (by decide) ?_
          refine lv_astore_n (lv' := [(3, .ref ag), (0, .ref ax), (1, .int k), (2, .int wh)]) hx hb dX4_vial_67 rfl hl (by decide) rfl (fun ls hl => ?_)
          refine lv_aload_n hx hb dX4_vial_68 rfl (lv_at hl 0 rfl) ?_
          refine lv_iload_n hx hb dX4_vial_69 rfl (lv_at hl 3 rfl) ?_
          refine go_i (ws' := [xc ax ar al at_ ah X, lc al ag ai L, gc ag G, gc ai I]) C (rn_V (As := [.int wh]) (rest := []) C (c_X0_tell l D cI ag G wh H.size) ck_X0_tell wd_2_56 wd_2_57 wd_2_55 ⟨Nat.le_of_ble_eq_true rfl, Nat.le_of_ble_eq_true rfl⟩ ⟨Nat.le_refl _, Nat.le_refl _⟩ (ci := 0) (q0 := 2) rfl rfl hP hD hS [2] rfl rfl hl rfl (Nat.le_of_ble_eq_true rfl) dX4_vial_70) hP hD hS [2] rfl rfl rfl (fun H locs hP hD hS => ?_)
          exact hend _ _ _ _ _ (by rw [← hr, r_X4_vial, if_neg c1, if_neg c2, if_neg c3, if_neg c4]) hP hS dX4_vial_73
      · refine lv_sipush (v := (-10002)) hx hb dX4_vial_38 (by decide) ?_
        exact hend _ _ _ _ _ (by rw [← hr, r_X4_vial, if_neg c1, if_neg c2, if_pos c3]) hP hS dX4_vial_41
    · refine lv_sipush (v := (-10001)) hx hb dX4_vial_25 (by decide) ?_
      exact hend _ _ _ _ _ (by rw [← hr, r_X4_vial, if_neg c1, if_pos c2]) hP hS dX4_vial_28
  · refine lv_sipush (v := (-10003)) hx hb dX4_vial_7 (by decide) ?_
    exact hend _ _ _ _ _ (by rw [← hr, r_X4_vial, if_pos c1]) hP hS dX4_vial_10
def r_X4_about (X : Nat → Int32) (L : Nat → Int32) (G : Nat → Int32) (I : Nat → Int32) (wh : Int32) : Int32 := (if (r_X4_within wh 0 9) = 0 then (-10002) else (if wh = 8 then (X 6) else (if wh = 9 then (X 7) else (if (X 8) = 0 then (-10003) else (r_X2_tell L G I wh)))))
theorem ck_X4_about : CK yX4_about cX4_about 2 (some .int) 1 := ⟨wd_2_62, wd_1_1, by decide, by decide, by decide +kernel⟩
set_option maxHeartbeats 4000000 in
set_option maxRecDepth 100000 in
theorem c_X4_about (l : Launch) (D : va_G) (cI : ClassId) (ax : Nat) (ar : Nat) (al : Nat) (at_ : Nat) (ah : Nat) (X : Nat → Int32) (ag : Nat) (ai : Nat) (L : Nat → Int32) (G : Nat → Int32) (I : Nat → Int32) (wh : Int32) : MI l D cI yX4_about cX4_about 2 (some .int) 2 41 [.ref ax, .int wh] [xc ax ar al at_ ah X, lc al ag ai L, gc ag G, gc ai I] (r_X4_about X L G I wh) [xc ax ar al at_ ah X, lc al ag ai L, gc ag G, gc ai I] := by
  generalize hr : (r_X4_about X L G I wh) = r
  refine MI.mk (own := RX4) rfl (by decide) rfl (Nat.le_of_ble_eq_true rfl) ?_
  intro p e s m args below meth c A Q C hD hend H locs ls hP hS hl
  have hx := C.1.1
  have hb := C.1.2.1
  have hl : lv_has ls 2 [(0, .ref ax), (1, .int wh)] := hl
  refine lv_iload_n hx hb dX4_about_0 rfl (lv_at hl 1 rfl) ?_
  refine lv_iconst (v := 0) hx hb dX4_about_1 (by decide) ?_
  refine lv_bipush (v := 9) hx hb dX4_about_2 (by decide) ?_
  refine go_i (ws' := [xc ax ar al at_ ah X, lc al ag ai L, gc ag G, gc ai I]) C (rn_S (As := [.int wh, .int 0, .int 9]) (rest := []) C (c_X4_within l D cI wh 0 9 H.size) ck_X4_within wd_1_156 wd_1_155 ⟨Nat.le_of_ble_eq_true rfl, Nat.le_of_ble_eq_true rfl⟩ ⟨Nat.le_refl _, Nat.le_refl _⟩ hP hD hS [] rfl rfl hl rfl (Nat.le_of_ble_eq_true rfl) dX4_about_4) hP hD hS [] rfl rfl rfl (fun H locs hP hD hS => ?_)
  refine lv_if_ne (tgt := 14) hx hb dX4_about_7 (by decide) (fun c1 => ?_) (fun c1 => ?_)
  · refine lv_iload_n hx hb dX4_about_14 rfl (lv_at hl 1 rfl) ?_
    refine lv_bipush (v := 8) hx hb dX4_about_15 (by decide) ?_
    refine lv_icmp_ne (tgt := 25) hx hb dX4_about_17 (by decide) (fun c2 => ?_) (fun c2 => ?_)
    · refine lv_iload_n hx hb dX4_about_25 rfl (lv_at hl 1 rfl) ?_
      refine lv_bipush (v := 9) hx hb dX4_about_26 (by decide) ?_
      refine lv_icmp_ne (tgt := 36) hx hb dX4_about_28 (by decide) (fun c3 => ?_) (fun c3 => ?_)
      · refine lv_aload_n hx hb dX4_about_36 rfl (lv_at hl 0 rfl) ?_
        refine kget (v := .int (X 8)) C hP igX4 rfl 8 (by decide) wd_1_128 0 rfl rfl dX4_about_37 ?_
        refine lv_if_eq (tgt := 54) hx hb dX4_about_40 (by decide) (fun c4 => ?_) (fun c4 => ?_)
        · refine lv_sipush (v := (-10003)) hx hb dX4_about_54 (by decide) ?_
          exact hend _ _ _ _ _ (by rw [← hr, r_X4_about, if_neg c1, if_neg c2, if_neg c3, if_pos c4]) hP hS dX4_about_57
        · refine lv_aload_n hx hb dX4_about_43 rfl (lv_at hl 0 rfl) ?_
          refine kget (v := .ref al) C hP igX4 rfl 1 (by decide) wd_1_121 0 rfl rfl dX4_about_44 ?_
          refine lv_iload_n hx hb dX4_about_47 rfl (lv_at hl 1 rfl) ?_
          refine go_i (ws' := [xc ax ar al at_ ah X, lc al ag ai L, gc ag G, gc ai I]) C (rn_V (As := [.int wh]) (rest := []) C (c_X2_tell l D cI al ag ai L G I wh H.size) ck_X2_tell wd_2_64 wd_2_65 wd_2_63 ⟨Nat.le_of_ble_eq_true rfl, Nat.le_of_ble_eq_true rfl⟩ ⟨Nat.le_refl _, Nat.le_refl _⟩ (ci := 2) (q0 := 1) rfl rfl hP hD hS [1, 2, 3] rfl rfl hl rfl (Nat.le_of_ble_eq_true rfl) dX4_about_48) hP hD hS [1, 2, 3] rfl rfl rfl (fun H locs hP hD hS => ?_)
          refine lv_goto (tgt := 57) hx hb dX4_about_51 (by decide) ?_
          exact hend _ _ _ _ _ (by rw [← hr, r_X4_about, if_neg c1, if_neg c2, if_neg c3, if_neg c4]) hP hS dX4_about_57
      · refine lv_aload_n hx hb dX4_about_31 rfl (lv_at hl 0 rfl) ?_
        refine kget (v := .int (X 7)) C hP igX4 rfl 7 (by decide) wd_1_127 0 rfl rfl dX4_about_32 ?_
        exact hend _ _ _ _ _ (by rw [← hr, r_X4_about, if_neg c1, if_neg c2, if_pos c3]) hP hS dX4_about_35
    · refine lv_aload_n hx hb dX4_about_20 rfl (lv_at hl 0 rfl) ?_
      refine kget (v := .int (X 6)) C hP igX4 rfl 6 (by decide) wd_1_126 0 rfl rfl dX4_about_21 ?_
      exact hend _ _ _ _ _ (by rw [← hr, r_X4_about, if_neg c1, if_pos c2]) hP hS dX4_about_24
  · refine lv_sipush (v := (-10002)) hx hb dX4_about_10 (by decide) ?_
    exact hend _ _ _ _ _ (by rw [← hr, r_X4_about, if_pos c1]) hP hS dX4_about_13
def r_X4_gauge (X : Nat → Int32) (L : Nat → Int32) (o1 : Nat → Int32) (o2 : Nat → Int32) (mi : Int32) (wh : Int32) : Int32 := (if (X 8) = 0 then (-3) else (if (r_X4_within mi 1 (L 2)) = 0 then (-1) else (if (r_X4_within wh 0 1) = 0 then (-2) else (if wh = 0 then (r_X1_oneAt o1 mi) else (r_X1_otherAt o2 mi)))))
theorem ck_X4_gauge : CK yX4_gauge cX4_gauge 3 (some .int) 2 := ⟨wd_2_75, wd_1_1, by decide, by decide, by decide +kernel⟩
set_option maxHeartbeats 4000000 in
set_option maxRecDepth 100000 in
theorem c_X4_gauge (l : Launch) (D : va_G) (cI : ClassId) (ax : Nat) (ar : Nat) (al : Nat) (at_ : Nat) (ah : Nat) (X : Nat → Int32) (ag : Nat) (ai : Nat) (L : Nat → Int32) (a1 : Nat) (a2 : Nat) (a3 : Nat) (o1 : Nat → Int32) (o2 : Nat → Int32) (o3 : Nat → Int32) (mi : Int32) (wh : Int32) : MI l D cI yX4_gauge cX4_gauge 3 (some .int) 3 63 [.ref ax, .int mi, .int wh] [xc ax ar al at_ ah X, lc al ag ai L, hc ah a1 a2 a3, ac cI a1 2001 o1, ac cI a2 2001 o2, ac cI a3 2001 o3] (r_X4_gauge X L o1 o2 mi wh) [xc ax ar al at_ ah X, lc al ag ai L, hc ah a1 a2 a3, ac cI a1 2001 o1, ac cI a2 2001 o2, ac cI a3 2001 o3] := by
  generalize hr : (r_X4_gauge X L o1 o2 mi wh) = r
  refine MI.mk (own := RX4) rfl (by decide) rfl (Nat.le_of_ble_eq_true rfl) ?_
  intro p e s m args below meth c A Q C hD hend H locs ls hP hS hl
  have hx := C.1.1
  have hb := C.1.2.1
  have hl : lv_has ls 3 [(0, .ref ax), (1, .int mi), (2, .int wh)] := hl
  refine lv_aload_n hx hb dX4_gauge_0 rfl (lv_at hl 0 rfl) ?_
  refine kget (v := .int (X 8)) C hP igX4 rfl 8 (by decide) wd_1_128 0 rfl rfl dX4_gauge_1 ?_
  refine lv_if_ne (tgt := 10) hx hb dX4_gauge_4 (by decide) (fun c1 => ?_) (fun c1 => ?_)
  · refine lv_iload_n hx hb dX4_gauge_10 rfl (lv_at hl 1 rfl) ?_
    refine lv_iconst (v := 1) hx hb dX4_gauge_11 (by decide) ?_
    refine lv_aload_n hx hb dX4_gauge_12 rfl (lv_at hl 0 rfl) ?_
    refine kget (v := .ref al) C hP igX4 rfl 1 (by decide) wd_1_121 0 rfl rfl dX4_gauge_13 ?_
    refine kget (v := .int (L 2)) C hP igX2 rfl 2 (by decide) wd_1_82 1 rfl rfl dX4_gauge_16 ?_
    refine go_i (ws' := [xc ax ar al at_ ah X, lc al ag ai L, hc ah a1 a2 a3, ac cI a1 2001 o1, ac cI a2 2001 o2, ac cI a3 2001 o3]) C (rn_S (As := [.int mi, .int 1, .int (L 2)]) (rest := []) C (c_X4_within l D cI mi 1 (L 2) H.size) ck_X4_within wd_1_156 wd_1_155 ⟨Nat.le_of_ble_eq_true rfl, Nat.le_of_ble_eq_true rfl⟩ ⟨Nat.le_refl _, Nat.le_refl _⟩ hP hD hS [] rfl rfl hl rfl (Nat.le_of_ble_eq_true rfl) dX4_gauge_19) hP hD hS [] rfl rfl rfl (fun H locs hP hD hS => ?_)
    refine lv_if_ne (tgt := 27) hx hb dX4_gauge_22 (by decide) (fun c2 => ?_) (fun c2 => ?_)
    · refine lv_iload_n hx hb dX4_gauge_27 rfl (lv_at hl 2 rfl) ?_
      refine lv_iconst (v := 0) hx hb dX4_gauge_28 (by decide) ?_
      refine lv_iconst (v := 1) hx hb dX4_gauge_29 (by decide) ?_
      refine go_i (ws' := [xc ax ar al at_ ah X, lc al ag ai L, hc ah a1 a2 a3, ac cI a1 2001 o1, ac cI a2 2001 o2, ac cI a3 2001 o3]) C (rn_S (As := [.int wh, .int 0, .int 1]) (rest := []) C (c_X4_within l D cI wh 0 1 H.size) ck_X4_within wd_1_156 wd_1_155 ⟨Nat.le_of_ble_eq_true rfl, Nat.le_of_ble_eq_true rfl⟩ ⟨Nat.le_refl _, Nat.le_refl _⟩ hP hD hS [] rfl rfl hl rfl (Nat.le_of_ble_eq_true rfl) dX4_gauge_30) hP hD hS [] rfl rfl rfl (fun H locs hP hD hS => ?_)
      refine lv_if_ne (tgt := 39) hx hb dX4_gauge_33 (by decide) (fun c3 => ?_) (fun c3 => ?_)
      · refine lv_iload_n hx hb dX4_gauge_39 rfl (lv_at hl 2 rfl) ?_
        refine lv_if_ne (tgt := 54) hx hb dX4_gauge_40 (by decide) (fun c4 => ?_) (fun c4 => ?_)
        · refine lv_aload_n hx hb dX4_gauge_54 rfl (lv_at hl 0 rfl) ?_
          refine kget (v := .ref ah) C hP igX4 rfl 3 (by decide) wd_1_123 0 rfl rfl dX4_gauge_55 ?_
          refine lv_iload_n hx hb dX4_gauge_58 rfl (lv_at hl 1 rfl) ?_
          refine go_i (ws' := [xc ax ar al at_ ah X, lc al ag ai L, hc ah a1 a2 a3, ac cI a1 2001 o1, ac cI a2 2001 o2, ac cI a3 2001 o3]) C (rn_V (As := [.int mi]) (rest := []) C (c_X1_otherAt l D cI ah a1 a2 a3 o1 o2 o3 mi H.size) ck_X1_otherAt wd_2_81 wd_2_82 wd_2_80 ⟨Nat.le_of_ble_eq_true rfl, Nat.le_of_ble_eq_true rfl⟩ ⟨Nat.le_refl _, Nat.le_refl _⟩ (ci := 1) (q0 := 2) rfl rfl hP hD hS [2, 3, 4, 5] rfl rfl hl rfl (Nat.le_of_ble_eq_true rfl) dX4_gauge_59) hP hD hS [2, 3, 4, 5] rfl rfl rfl (fun H locs hP hD hS => ?_)
          exact hend _ _ _ _ _ (by rw [← hr, r_X4_gauge, if_neg c1, if_neg c2, if_neg c3, if_neg c4]) hP hS dX4_gauge_62
        · refine lv_aload_n hx hb dX4_gauge_43 rfl (lv_at hl 0 rfl) ?_
          refine kget (v := .ref ah) C hP igX4 rfl 3 (by decide) wd_1_123 0 rfl rfl dX4_gauge_44 ?_
          refine lv_iload_n hx hb dX4_gauge_47 rfl (lv_at hl 1 rfl) ?_
          refine go_i (ws' := [xc ax ar al at_ ah X, lc al ag ai L, hc ah a1 a2 a3, ac cI a1 2001 o1, ac cI a2 2001 o2, ac cI a3 2001 o3]) C (rn_V (As := [.int mi]) (rest := []) C (c_X1_oneAt l D cI ah a1 a2 a3 o1 o2 o3 mi H.size) ck_X1_oneAt wd_2_77 wd_2_78 wd_2_76 ⟨Nat.le_of_ble_eq_true rfl, Nat.le_of_ble_eq_true rfl⟩ ⟨Nat.le_refl _, Nat.le_refl _⟩ (ci := 1) (q0 := 2) rfl rfl hP hD hS [2, 3, 4, 5] rfl rfl hl rfl (Nat.le_of_ble_eq_true rfl) dX4_gauge_48) hP hD hS [2, 3, 4, 5] rfl rfl rfl (fun H locs hP hD hS => ?_)
          refine lv_goto (tgt := 62) hx hb dX4_gauge_51 (by decide) ?_
          exact hend _ _ _ _ _ (by rw [← hr, r_X4_gauge, if_neg c1, if_neg c2, if_neg c3, if_pos c4]) hP hS dX4_gauge_62
      · refine lv_bipush (v := (-2)) hx hb dX4_gauge_36 (by decide) ?_
        exact hend _ _ _ _ _ (by rw [← hr, r_X4_gauge, if_neg c1, if_neg c2, if_pos c3]) hP hS dX4_gauge_38
    · refine lv_iconst (v := (-1)) hx hb dX4_gauge_25 (by decide) ?_
      exact hend _ _ _ _ _ (by rw [← hr, r_X4_gauge, if_neg c1, if_pos c2]) hP hS dX4_gauge_26
  · refine lv_bipush (v := (-3)) hx hb dX4_gauge_7 (by decide) ?_
    exact hend _ _ _ _ _ (by rw [← hr, r_X4_gauge, if_pos c1]) hP hS dX4_gauge_9
noncomputable def r_X4_end (X : Nat → Int32) (L : Nat → Int32) (o1 : Nat → Int32) (o2 : Nat → Int32) (to : Int32) (hd : Int32) : Int32 := (if (r_X4_within to 0 100) = 0 then (-2) else (if (r_X4_within hd 1 60) = 0 then (-2) else (if (X 8) = 0 then (-3) else (r_X1_findEnd o1 o2 (L 2) to hd))))
theorem ck_X4_end : CK yX4_end cX4_end 3 (some .int) 2 := ⟨wd_2_87, wd_1_1, by decide, by decide, by decide +kernel⟩
set_option maxHeartbeats 4000000 in
set_option maxRecDepth 100000 in
theorem c_X4_end (l : Launch) (D : va_G) (cI : ClassId) (ax : Nat) (ar : Nat) (al : Nat) (at_ : Nat) (ah : Nat) (X : Nat → Int32) (ag : Nat) (ai : Nat) (L : Nat → Int32) (a1 : Nat) (a2 : Nat) (a3 : Nat) (o1 : Nat → Int32) (o2 : Nat → Int32) (o3 : Nat → Int32) (to : Int32) (hd : Int32) (hmo : Int32.toInt (L 2) < 2147483647) : MI l D cI yX4_end cX4_end 3 (some .int) 4 88 [.ref ax, .int to, .int hd] [xc ax ar al at_ ah X, lc al ag ai L, hc ah a1 a2 a3, ac cI a1 2001 o1, ac cI a2 2001 o2, ac cI a3 2001 o3] (r_X4_end X L o1 o2 to hd) [xc ax ar al at_ ah X, lc al ag ai L, hc ah a1 a2 a3, ac cI a1 2001 o1, ac cI a2 2001 o2, ac cI a3 2001 o3] := by
  generalize hr : (r_X4_end X L o1 o2 to hd) = r
  refine MI.mk (own := RX4) rfl (by decide) rfl (Nat.le_of_ble_eq_true rfl) ?_
  intro p e s m args below meth c A Q C hD hend H locs ls hP hS hl
  have hx := C.1.1
  have hb := C.1.2.1
  have hl : lv_has ls 3 [(0, .ref ax), (1, .int to), (2, .int hd)] := hl
  refine lv_iload_n hx hb dX4_end_0 rfl (lv_at hl 1 rfl) ?_
  refine lv_iconst (v := 0) hx hb dX4_end_1 (by decide) ?_
  refine lv_bipush (v := 100) hx hb dX4_end_2 (by decide) ?_
  refine go_i (ws' := [xc ax ar al at_ ah X, lc al ag ai L, hc ah a1 a2 a3, ac cI a1 2001 o1, ac cI a2 2001 o2, ac cI a3 2001 o3]) C (rn_S (As := [.int to, .int 0, .int 100]) (rest := []) C (c_X4_within l D cI to 0 100 H.size) ck_X4_within wd_1_156 wd_1_155 ⟨Nat.le_of_ble_eq_true rfl, Nat.le_of_ble_eq_true rfl⟩ ⟨Nat.le_refl _, Nat.le_refl _⟩ hP hD hS [] rfl rfl hl rfl (Nat.le_of_ble_eq_true rfl) dX4_end_4) hP hD hS [] rfl rfl rfl (fun H locs hP hD hS => ?_)
  refine lv_if_eq (tgt := 20) hx hb dX4_end_7 (by decide) (fun c1 => ?_) (fun c1 => ?_)
  · refine lv_bipush (v := (-2)) hx hb dX4_end_20 (by decide) ?_
    exact hend _ _ _ _ _ (by rw [← hr, r_X4_end, if_pos c1]) hP hS dX4_end_22
  · refine lv_iload_n hx hb dX4_end_10 rfl (lv_at hl 2 rfl) ?_
    refine lv_iconst (v := 1) hx hb dX4_end_11 (by decide) ?_
    refine lv_bipush (v := 60) hx hb dX4_end_12 (by decide) ?_
    refine go_i (ws' := [xc ax ar al at_ ah X, lc al ag ai L, hc ah a1 a2 a3, ac cI a1 2001 o1, ac cI a2 2001 o2, ac cI a3 2001 o3]) C (rn_S (As := [.int hd, .int 1, .int 60]) (rest := []) C (c_X4_within l D cI hd 1 60 H.size) ck_X4_within wd_1_156 wd_1_155 ⟨Nat.le_of_ble_eq_true rfl, Nat.le_of_ble_eq_true rfl⟩ ⟨Nat.le_refl _, Nat.le_refl _⟩ hP hD hS [] rfl rfl hl rfl (Nat.le_of_ble_eq_true rfl) dX4_end_14) hP hD hS [] rfl rfl rfl (fun H locs hP hD hS => ?_)
    refine lv_if_ne (tgt := 23) hx hb dX4_end_17 (by decide) (fun c2 => ?_) (fun c2 => ?_)
    · refine lv_aload_n hx hb dX4_end_23 rfl (lv_at hl 0 rfl) ?_
      refine kget (v := .int (X 8)) C hP igX4 rfl 8 (by decide) wd_1_128 0 rfl rfl dX4_end_24 ?_
      refine lv_if_eq (tgt := 49) hx hb dX4_end_27 (by decide) (fun c3 => ?_) (fun c3 => ?_)
      · refine lv_bipush (v := (-3)) hx hb dX4_end_49 (by decide) ?_
        exact hend _ _ _ _ _ (by rw [← hr, r_X4_end, if_neg c1, if_neg c2, if_pos c3]) hP hS dX4_end_51
      · refine lv_aload_n hx hb dX4_end_30 rfl (lv_at hl 0 rfl) ?_
        refine kget (v := .ref ah) C hP igX4 rfl 3 (by decide) wd_1_123 0 rfl rfl dX4_end_31 ?_
        refine lv_aload_n hx hb dX4_end_34 rfl (lv_at hl 0 rfl) ?_
        refine kget (v := .ref al) C hP igX4 rfl 1 (by decide) wd_1_121 0 rfl rfl dX4_end_35 ?_
        refine kget (v := .int (L 2)) C hP igX2 rfl 2 (by decide) wd_1_82 1 rfl rfl dX4_end_38 ?_
        refine lv_iload_n hx hb dX4_end_41 rfl (lv_at hl 1 rfl) ?_
        refine lv_iload_n hx hb dX4_end_42 rfl (lv_at hl 2 rfl) ?_
        refine go_i (ws' := [xc ax ar al at_ ah X, lc al ag ai L, hc ah a1 a2 a3, ac cI a1 2001 o1, ac cI a2 2001 o2, ac cI a3 2001 o3]) C (rn_V (As := [.int (L 2), .int to, .int hd]) (rest := []) C (c_X1_findEnd l D cI ah a1 a2 a3 o1 o2 o3 (L 2) to hd hmo H.size) ck_X1_findEnd wd_2_89 wd_2_90 wd_2_88 ⟨Nat.le_of_ble_eq_true rfl, Nat.le_of_ble_eq_true rfl⟩ ⟨Nat.le_refl _, Nat.le_refl _⟩ (ci := 1) (q0 := 2) rfl rfl hP hD hS [2, 3, 4, 5] rfl rfl hl rfl (Nat.le_of_ble_eq_true rfl) dX4_end_43) hP hD hS [2, 3, 4, 5] rfl rfl rfl (fun H locs hP hD hS => ?_)
        refine lv_goto (tgt := 51) hx hb dX4_end_46 (by decide) ?_
        exact hend _ _ _ _ _ (by rw [← hr, r_X4_end, if_neg c1, if_neg c2, if_neg c3]) hP hS dX4_end_51
    · refine lv_bipush (v := (-2)) hx hb dX4_end_20 (by decide) ?_
      exact hend _ _ _ _ _ (by rw [← hr, r_X4_end, if_neg c1, if_pos c2]) hP hS dX4_end_22
def r_X4_wet (X : Nat → Int32) (L : Nat → Int32) (o3 : Nat → Int32) (mi : Int32) : Int32 := (if (X 8) = 0 then (-3) else (if (r_X4_within mi 0 (L 2)) = 0 then (-1) else (r_X1_withIceAt o3 mi)))
theorem ck_X4_wet : CK yX4_wet cX4_wet 2 (some .int) 1 := ⟨wd_2_97, wd_1_1, by decide, by decide, by decide +kernel⟩
set_option maxHeartbeats 4000000 in
set_option maxRecDepth 100000 in
theorem c_X4_wet (l : Launch) (D : va_G) (cI : ClassId) (ax : Nat) (ar : Nat) (al : Nat) (at_ : Nat) (ah : Nat) (X : Nat → Int32) (ag : Nat) (ai : Nat) (L : Nat → Int32) (a1 : Nat) (a2 : Nat) (a3 : Nat) (o1 : Nat → Int32) (o2 : Nat → Int32) (o3 : Nat → Int32) (mi : Int32) : MI l D cI yX4_wet cX4_wet 2 (some .int) 3 63 [.ref ax, .int mi] [xc ax ar al at_ ah X, lc al ag ai L, hc ah a1 a2 a3, ac cI a1 2001 o1, ac cI a2 2001 o2, ac cI a3 2001 o3] (r_X4_wet X L o3 mi) [xc ax ar al at_ ah X, lc al ag ai L, hc ah a1 a2 a3, ac cI a1 2001 o1, ac cI a2 2001 o2, ac cI a3 2001 o3] := by
  generalize hr : (r_X4_wet X L o3 mi) = r
  refine MI.mk (own := RX4) rfl (by decide) rfl (Nat.le_of_ble_eq_true rfl) ?_
  intro p e s m args below meth c A Q C hD hend H locs ls hP hS hl
  have hx := C.1.1
  have hb := C.1.2.1
  have hl : lv_has ls 2 [(0, .ref ax), (1, .int mi)] := hl
  refine lv_aload_n hx hb dX4_wet_0 rfl (lv_at hl 0 rfl) ?_
  refine kget (v := .int (X 8)) C hP igX4 rfl 8 (by decide) wd_1_128 0 rfl rfl dX4_wet_1 ?_
  refine lv_if_ne (tgt := 10) hx hb dX4_wet_4 (by decide) (fun c1 => ?_) (fun c1 => ?_)
  · refine lv_iload_n hx hb dX4_wet_10 rfl (lv_at hl 1 rfl) ?_
    refine lv_iconst (v := 0) hx hb dX4_wet_11 (by decide) ?_
    refine lv_aload_n hx hb dX4_wet_12 rfl (lv_at hl 0 rfl) ?_
    refine kget (v := .ref al) C hP igX4 rfl 1 (by decide) wd_1_121 0 rfl rfl dX4_wet_13 ?_
    refine kget (v := .int (L 2)) C hP igX2 rfl 2 (by decide) wd_1_82 1 rfl rfl dX4_wet_16 ?_
    refine go_i (ws' := [xc ax ar al at_ ah X, lc al ag ai L, hc ah a1 a2 a3, ac cI a1 2001 o1, ac cI a2 2001 o2, ac cI a3 2001 o3]) C (rn_S (As := [.int mi, .int 0, .int (L 2)]) (rest := []) C (c_X4_within l D cI mi 0 (L 2) H.size) ck_X4_within wd_1_156 wd_1_155 ⟨Nat.le_of_ble_eq_true rfl, Nat.le_of_ble_eq_true rfl⟩ ⟨Nat.le_refl _, Nat.le_refl _⟩ hP hD hS [] rfl rfl hl rfl (Nat.le_of_ble_eq_true rfl) dX4_wet_19) hP hD hS [] rfl rfl rfl (fun H locs hP hD hS => ?_)
    refine lv_if_eq (tgt := 36) hx hb dX4_wet_22 (by decide) (fun c2 => ?_) (fun c2 => ?_)
    · refine lv_iconst (v := (-1)) hx hb dX4_wet_36 (by decide) ?_
      exact hend _ _ _ _ _ (by rw [← hr, r_X4_wet, if_neg c1, if_pos c2]) hP hS dX4_wet_37
    · refine lv_aload_n hx hb dX4_wet_25 rfl (lv_at hl 0 rfl) ?_
      refine kget (v := .ref ah) C hP igX4 rfl 3 (by decide) wd_1_123 0 rfl rfl dX4_wet_26 ?_
      refine lv_iload_n hx hb dX4_wet_29 rfl (lv_at hl 1 rfl) ?_
      refine go_i (ws' := [xc ax ar al at_ ah X, lc al ag ai L, hc ah a1 a2 a3, ac cI a1 2001 o1, ac cI a2 2001 o2, ac cI a3 2001 o3]) C (rn_V (As := [.int mi]) (rest := []) C (c_X1_withIceAt l D cI ah a1 a2 a3 o1 o2 o3 mi H.size) ck_X1_withIceAt wd_2_99 wd_2_100 wd_2_98 ⟨Nat.le_of_ble_eq_true rfl, Nat.le_of_ble_eq_true rfl⟩ ⟨Nat.le_refl _, Nat.le_refl _⟩ (ci := 1) (q0 := 2) rfl rfl hP hD hS [2, 3, 4, 5] rfl rfl hl rfl (Nat.le_of_ble_eq_true rfl) dX4_wet_30) hP hD hS [2, 3, 4, 5] rfl rfl rfl (fun H locs hP hD hS => ?_)
      refine lv_goto (tgt := 37) hx hb dX4_wet_33 (by decide) ?_
      exact hend _ _ _ _ _ (by rw [← hr, r_X4_wet, if_neg c1, if_neg c2]) hP hS dX4_wet_37
  · refine lv_bipush (v := (-3)) hx hb dX4_wet_7 (by decide) ?_
    exact hend _ _ _ _ _ (by rw [← hr, r_X4_wet, if_pos c1]) hP hS dX4_wet_9
def r_X4_firstFallen (X : Nat → Int32) (G : Nat → Int32) (I : Nat → Int32) : Int32 := (if (X 8) = 0 then (-3) else (r_X2_firstVialToFall G I))
theorem ck_X4_firstFallen : CK yX4_firstFallen cX4_firstFallen 1 (some .int) 0 := ⟨wd_2_105, wd_1_1, by decide, by decide, by decide +kernel⟩
set_option maxHeartbeats 4000000 in
set_option maxRecDepth 100000 in
theorem c_X4_firstFallen (l : Launch) (D : va_G) (cI : ClassId) (ax : Nat) (ar : Nat) (al : Nat) (at_ : Nat) (ah : Nat) (X : Nat → Int32) (ag : Nat) (ai : Nat) (L : Nat → Int32) (G : Nat → Int32) (I : Nat → Int32) : MI l D cI yX4_firstFallen cX4_firstFallen 1 (some .int) 2 42 [.ref ax] [xc ax ar al at_ ah X, lc al ag ai L, gc ag G, gc ai I] (r_X4_firstFallen X G I) [xc ax ar al at_ ah X, lc al ag ai L, gc ag G, gc ai I] := by
  generalize hr : (r_X4_firstFallen X G I) = r
  refine MI.mk (own := RX4) rfl (by decide) rfl (Nat.le_of_ble_eq_true rfl) ?_
  intro p e s m args below meth c A Q C hD hend H locs ls hP hS hl
  have hx := C.1.1
  have hb := C.1.2.1
  have hl : lv_has ls 1 [(0, .ref ax)] := hl
  refine lv_aload_n hx hb dX4_firstFallen_0 rfl (lv_at hl 0 rfl) ?_
  refine kget (v := .int (X 8)) C hP igX4 rfl 8 (by decide) wd_1_128 0 rfl rfl dX4_firstFallen_1 ?_
  refine lv_if_eq (tgt := 17) hx hb dX4_firstFallen_4 (by decide) (fun c1 => ?_) (fun c1 => ?_)
  · refine lv_bipush (v := (-3)) hx hb dX4_firstFallen_17 (by decide) ?_
    exact hend _ _ _ _ _ (by rw [← hr, r_X4_firstFallen, if_pos c1]) hP hS dX4_firstFallen_19
  · refine lv_aload_n hx hb dX4_firstFallen_7 rfl (lv_at hl 0 rfl) ?_
    refine kget (v := .ref al) C hP igX4 rfl 1 (by decide) wd_1_121 0 rfl rfl dX4_firstFallen_8 ?_
    refine go_i (ws' := [xc ax ar al at_ ah X, lc al ag ai L, gc ag G, gc ai I]) C (rn_V (As := []) (rest := []) C (c_X2_firstVialToFall l D cI al ag ai L G I H.size) ck_X2_firstVialToFall wd_2_107 wd_2_108 wd_2_106 ⟨Nat.le_of_ble_eq_true rfl, Nat.le_of_ble_eq_true rfl⟩ ⟨Nat.le_refl _, Nat.le_refl _⟩ (ci := 2) (q0 := 1) rfl rfl hP hD hS [1, 2, 3] rfl rfl hl rfl (Nat.le_of_ble_eq_true rfl) dX4_firstFallen_11) hP hD hS [1, 2, 3] rfl rfl rfl (fun H locs hP hD hS => ?_)
    refine lv_goto (tgt := 19) hx hb dX4_firstFallen_14 (by decide) ?_
    exact hend _ _ _ _ _ (by rw [← hr, r_X4_firstFallen, if_neg c1]) hP hS dX4_firstFallen_19
