noncomputable def lr_X4_noneFalls_23 (X : Nat → Int32) (R : Nat → Int32) (t : Int32) (p0 : Int32) (mn : Int32) : Nat → (Int32) → (Nat → Int32) → (Nat → Int32) → (Nat → Int32) → (Int32)
  | 0, _, _, _, _ => 0
  | n + 1, i, L2, G2, I2 => (if mn ≤ i then (if (r_X2_fallenVials G2 I2) = 0 then 1 else 0) else (if (r_X2_vialsWithIce G2 I2) ≤ 0 then (if (r_X2_fallenVials G2 I2) = 0 then 1 else 0) else (lr_X4_noneFalls_23 X R t p0 mn n (i + 1) (q_X2_passMinute_L L2 G2 I2 R t p0) (q_X2_passMinute_G L2 G2 R t) (q_X2_passMinute_I L2 I2 R t))))
noncomputable def lq_X4_noneFalls_23_X (X : Nat → Int32) (R : Nat → Int32) (t : Int32) (p0 : Int32) (mn : Int32) : Nat → (Int32) → (Nat → Int32) → (Nat → Int32) → (Nat → Int32) → (Nat → Int32)
  | 0, _, _, _, _ => fun _ => 0
  | n + 1, i, L2, G2, I2 => (if mn ≤ i then (if (r_X2_fallenVials G2 I2) = 0 then (x10 (X 4) (X 5) (X 6) (X 7) (X 8) 1) else (x10 (X 4) (X 5) (X 6) (X 7) (X 8) 1)) else (if (r_X2_vialsWithIce G2 I2) ≤ 0 then (if (r_X2_fallenVials G2 I2) = 0 then (x10 (X 4) (X 5) (X 6) (X 7) (X 8) 1) else (x10 (X 4) (X 5) (X 6) (X 7) (X 8) 1)) else (lq_X4_noneFalls_23_X X R t p0 mn n (i + 1) (q_X2_passMinute_L L2 G2 I2 R t p0) (q_X2_passMinute_G L2 G2 R t) (q_X2_passMinute_I L2 I2 R t))))
noncomputable def lq_X4_noneFalls_23_L2 (X : Nat → Int32) (R : Nat → Int32) (t : Int32) (p0 : Int32) (mn : Int32) : Nat → (Int32) → (Nat → Int32) → (Nat → Int32) → (Nat → Int32) → (Nat → Int32)
  | 0, _, _, _, _ => fun _ => 0
  | n + 1, i, L2, G2, I2 => (if mn ≤ i then (if (r_X2_fallenVials G2 I2) = 0 then L2 else L2) else (if (r_X2_vialsWithIce G2 I2) ≤ 0 then (if (r_X2_fallenVials G2 I2) = 0 then L2 else L2) else (lq_X4_noneFalls_23_L2 X R t p0 mn n (i + 1) (q_X2_passMinute_L L2 G2 I2 R t p0) (q_X2_passMinute_G L2 G2 R t) (q_X2_passMinute_I L2 I2 R t))))
noncomputable def lq_X4_noneFalls_23_G2 (X : Nat → Int32) (R : Nat → Int32) (t : Int32) (p0 : Int32) (mn : Int32) : Nat → (Int32) → (Nat → Int32) → (Nat → Int32) → (Nat → Int32) → (Nat → Int32)
  | 0, _, _, _, _ => fun _ => 0
  | n + 1, i, L2, G2, I2 => (if mn ≤ i then (if (r_X2_fallenVials G2 I2) = 0 then G2 else G2) else (if (r_X2_vialsWithIce G2 I2) ≤ 0 then (if (r_X2_fallenVials G2 I2) = 0 then G2 else G2) else (lq_X4_noneFalls_23_G2 X R t p0 mn n (i + 1) (q_X2_passMinute_L L2 G2 I2 R t p0) (q_X2_passMinute_G L2 G2 R t) (q_X2_passMinute_I L2 I2 R t))))
noncomputable def lq_X4_noneFalls_23_I2 (X : Nat → Int32) (R : Nat → Int32) (t : Int32) (p0 : Int32) (mn : Int32) : Nat → (Int32) → (Nat → Int32) → (Nat → Int32) → (Nat → Int32) → (Nat → Int32)
  | 0, _, _, _, _ => fun _ => 0
  | n + 1, i, L2, G2, I2 => (if mn ≤ i then (if (r_X2_fallenVials G2 I2) = 0 then I2 else I2) else (if (r_X2_vialsWithIce G2 I2) ≤ 0 then (if (r_X2_fallenVials G2 I2) = 0 then I2 else I2) else (lq_X4_noneFalls_23_I2 X R t p0 mn n (i + 1) (q_X2_passMinute_L L2 G2 I2 R t p0) (q_X2_passMinute_G L2 G2 R t) (q_X2_passMinute_I L2 I2 R t))))
noncomputable def r_X4_noneFalls (X : Nat → Int32) (R : Nat → Int32) (t : Int32) (p0 : Int32) (mn : Int32) : Int32 := (lr_X4_noneFalls_23 X R t p0 mn (fu ((Int32.toInt mn).toNat + 1)) 0 (q_X2_start_L p0) (q_X2_start_G R (X 4) (X 5)) (q_X2_start_I R (X 4) (X 5)))
noncomputable def q_X4_noneFalls_X (X : Nat → Int32) (R : Nat → Int32) (t : Int32) (p0 : Int32) (mn : Int32) : Nat → Int32 := (lq_X4_noneFalls_23_X X R t p0 mn (fu ((Int32.toInt mn).toNat + 1)) 0 (q_X2_start_L p0) (q_X2_start_G R (X 4) (X 5)) (q_X2_start_I R (X 4) (X 5)))
noncomputable def q_X4_noneFalls_L2 (X : Nat → Int32) (R : Nat → Int32) (t : Int32) (p0 : Int32) (mn : Int32) : Nat → Int32 := (lq_X4_noneFalls_23_L2 X R t p0 mn (fu ((Int32.toInt mn).toNat + 1)) 0 (q_X2_start_L p0) (q_X2_start_G R (X 4) (X 5)) (q_X2_start_I R (X 4) (X 5)))
noncomputable def q_X4_noneFalls_G2 (X : Nat → Int32) (R : Nat → Int32) (t : Int32) (p0 : Int32) (mn : Int32) : Nat → Int32 := (lq_X4_noneFalls_23_G2 X R t p0 mn (fu ((Int32.toInt mn).toNat + 1)) 0 (q_X2_start_L p0) (q_X2_start_G R (X 4) (X 5)) (q_X2_start_I R (X 4) (X 5)))
noncomputable def q_X4_noneFalls_I2 (X : Nat → Int32) (R : Nat → Int32) (t : Int32) (p0 : Int32) (mn : Int32) : Nat → Int32 := (lq_X4_noneFalls_23_I2 X R t p0 mn (fu ((Int32.toInt mn).toNat + 1)) 0 (q_X2_start_L p0) (q_X2_start_G R (X 4) (X 5)) (q_X2_start_I R (X 4) (X 5)))
theorem ck_X4_noneFalls : CK yX4_noneFalls cX4_noneFalls 5 (some .boolean) 3 := ⟨wd_2_124, wd_1_1, by decide, by decide, by decide +kernel⟩
theorem b_X4_noneFalls (X : Nat → Int32) (R : Nat → Int32) (t : Int32) (p0 : Int32) (mn : Int32) : (r_X4_noneFalls X R t p0 mn) = 0 ∨ (r_X4_noneFalls X R t p0 mn) = 1 := by
  have h : ∀ (n : Nat) (i : Int32) (L2 G2 I2 : Nat → Int32), lr_X4_noneFalls_23 X R t p0 mn n i L2 G2 I2 = 0 ∨ lr_X4_noneFalls_23 X R t p0 mn n i L2 G2 I2 = 1 := by
    intro n
    induction n with
    | zero => intro i L2 G2 I2; exact Or.inl rfl
    | succ n ih =>
      intro i L2 G2 I2
      rw [lr_X4_noneFalls_23]
      repeat' split
      all_goals first | exact Or.inl rfl | exact Or.inr rfl | exact ih _ _ _ _
  exact h _ _ _ _ _
set_option maxHeartbeats 4000000 in
set_option maxRecDepth 100000 in
theorem c_X4_noneFalls (l : Launch) (D : va_G) (cI : ClassId) (ax : Nat) (ar : Nat) (al : Nat) (at_ : Nat) (ah : Nat) (X : Nat → Int32) (av : Nat) (R : Nat → Int32) (tg : Nat) (ti : Nat) (L2 : Nat → Int32) (G2 : Nat → Int32) (I2 : Nat → Int32) (t : Int32) (p0 : Int32) (mn : Int32) : MI l D cI yX4_noneFalls cX4_noneFalls 5 (some .boolean) 5 125 [.ref ax, .int t, .int p0, .int mn] [xc ax ar al at_ ah X, rc ar av, ac cI av 11 R, lc at_ tg ti L2, gc tg G2, gc ti I2] (r_X4_noneFalls X R t p0 mn) [xc ax ar al at_ ah (q_X4_noneFalls_X X R t p0 mn), rc ar av, ac cI av 11 R, lc at_ tg ti (q_X4_noneFalls_L2 X R t p0 mn), gc tg (q_X4_noneFalls_G2 X R t p0 mn), gc ti (q_X4_noneFalls_I2 X R t p0 mn)] := by
  have hn : narrow .boolean (.int (r_X4_noneFalls X R t p0 mn)) = .int (r_X4_noneFalls X R t p0 mn) := nb (b_X4_noneFalls X R t p0 mn)
  generalize hr : (r_X4_noneFalls X R t p0 mn) = r at hn ⊢
  generalize ho_X : (q_X4_noneFalls_X X R t p0 mn) = o_X
  generalize ho_L2 : (q_X4_noneFalls_L2 X R t p0 mn) = o_L2
  generalize ho_G2 : (q_X4_noneFalls_G2 X R t p0 mn) = o_G2
  generalize ho_I2 : (q_X4_noneFalls_I2 X R t p0 mn) = o_I2
  refine MI.mk (own := RX4) rfl (by decide) hn (Nat.le_of_ble_eq_true rfl) ?_
  intro p e s m args below meth c A Q C hD hend H locs ls hP hS hl
  have hx := C.1.1
  have hb := C.1.2.1
  have hl : lv_has ls 5 [(0, .ref ax), (1, .int t), (2, .int p0), (3, .int mn)] := hl
  refine lv_aload_n hx hb dX4_noneFalls_0 rfl (lv_at hl 0 rfl) ?_
  refine kget (v := .ref at_) C hP igX4 rfl 2 (by decide) wd_1_122 0 rfl rfl dX4_noneFalls_1 ?_
  refine lv_aload_n hx hb dX4_noneFalls_4 rfl (lv_at hl 0 rfl) ?_
  refine kget (v := .ref ar) C hP igX4 rfl 0 (by decide) wd_1_120 0 rfl rfl dX4_noneFalls_5 ?_
  refine lv_aload_n hx hb dX4_noneFalls_8 rfl (lv_at hl 0 rfl) ?_
  refine kget (v := .int (X 4)) C hP igX4 rfl 4 (by decide) wd_1_124 0 rfl rfl dX4_noneFalls_9 ?_
  refine lv_aload_n hx hb dX4_noneFalls_12 rfl (lv_at hl 0 rfl) ?_
  refine kget (v := .int (X 5)) C hP igX4 rfl 5 (by decide) wd_1_125 0 rfl rfl dX4_noneFalls_13 ?_
  refine lv_iload_n hx hb dX4_noneFalls_16 rfl (lv_at hl 2 rfl) ?_
  refine go_v (ws' := [xc ax ar al at_ ah X, rc ar av, ac cI av 11 R, lc at_ tg ti (q_X2_start_L p0), gc tg (q_X2_start_G R (X 4) (X 5)), gc ti (q_X2_start_I R (X 4) (X 5))]) C (rn_V (As := [.ref ar, .int (X 4), .int (X 5), .int p0]) (rest := []) C (c_X2_start l D cI at_ tg ti L2 G2 I2 ar av R (X 4) (X 5) p0 H.size) ck_X2_start wd_1_224 wd_1_225 wd_1_223 ⟨Nat.le_of_ble_eq_true rfl, Nat.le_of_ble_eq_true rfl⟩ ⟨Nat.le_refl _, Nat.le_refl _⟩ (ci := 2) (q0 := 3) rfl rfl hP hD hS [3, 4, 5, 1, 2] rfl rfl hl rfl (Nat.le_of_ble_eq_true rfl) dX4_noneFalls_17) hP hD hS [3, 4, 5, 1, 2] rfl rfl rfl (fun H locs hP hD hS => ?_)
  refine lv_iconst (v := 0) hx hb dX4_noneFalls_20 (by decide) ?_
  refine lv_istore (lv' := [(4, .int 0), (0, .ref ax), (1, .int t), (2, .int p0), (3, .int mn)]) hx hb dX4_noneFalls_21 hl (by decide) rfl (fun ls hl => ?_)
  have lp23 : ∀ (n : Nat) (i : Int32) (L2 : Nat → Int32) (G2 : Nat → Int32) (I2 : Nat → Int32), (Int32.toInt mn - Int32.toInt i).toNat < n → lr_X4_noneFalls_23 X R t p0 mn n i L2 G2 I2 = r → lq_X4_noneFalls_23_X X R t p0 mn n i L2 G2 I2 = o_X → lq_X4_noneFalls_23_L2 X R t p0 mn n i L2 G2 I2 = o_L2 → lq_X4_noneFalls_23_G2 X R t p0 mn n i L2 G2 I2 = o_G2 → lq_X4_noneFalls_23_I2 X R t p0 mn n i L2 G2 I2 = o_I2 → ∀ (ls : Array Slot) (H : Heap) (locs : List Loc), lv_has ls 5 [(0, .ref ax), (1, .int t), (2, .int p0), (3, .int mn), (4, .int i)] → va_P D vwCl [xc ax ar al at_ ah X, rc ar av, ac cI av 11 R, lc at_ tg ti L2, gc tg G2, gc ti I2] H → va_D A [xc ax ar al at_ ah X, rc ar av, ac cI av 11 R, lc at_ tg ti L2, gc tg G2, gc ti I2] → va_S A s.heap H locs → W p l e (RM 5 125) s m args below meth c H locs 0 0 Q (F0 m 23 ls []) := by
    clear hl hP hD hS
    intro n
    induction n with
    | zero =>
      intro i L2 G2 I2  hm
      exact absurd hm (Nat.not_lt_zero _)
    | succ n ih =>
      intro i L2 G2 I2  hm hr ho_X ho_L2 ho_G2 ho_I2 ls H locs hl hP hD hS
      refine lv_iload hx hb dX4_noneFalls_23 (lv_at hl 4 rfl) ?_
      refine lv_iload_n hx hb dX4_noneFalls_25 rfl (lv_at hl 3 rfl) ?_
      refine lv_icmp_ge (tgt := 58) hx hb dX4_noneFalls_26 (by decide) (fun c1 => ?_) (fun c1 => ?_)
      · refine lv_aload_n hx hb dX4_noneFalls_58 rfl (lv_at hl 0 rfl) ?_
        refine lv_iconst (v := 1) hx hb dX4_noneFalls_59 (by decide) ?_
        refine kput (ty := .boolean) (ws' := [xc ax ar al at_ ah (x10 (X 4) (X 5) (X 6) (X 7) (X 8) 1), rc ar av, ac cI av 11 R, lc at_ tg ti L2, gc tg G2, gc ti I2]) C hP hD hS igX4 tyX4_ok nmX4 rfl 9 (by decide) wd_1_129 rfl rfl rfl rfl 0 rfl (Nat.le_of_ble_eq_true rfl) rfl dX4_noneFalls_60 (fun H locs hP hD hS => ?_)
        refine lv_aload_n hx hb dX4_noneFalls_63 rfl (lv_at hl 0 rfl) ?_
        refine kget (v := .ref at_) C hP igX4 rfl 2 (by decide) wd_1_122 0 rfl rfl dX4_noneFalls_64 ?_
        refine go_i (ws' := [xc ax ar al at_ ah (x10 (X 4) (X 5) (X 6) (X 7) (X 8) 1), rc ar av, ac cI av 11 R, lc at_ tg ti L2, gc tg G2, gc ti I2]) C (rn_V (As := []) (rest := []) C (c_X2_fallenVials l D cI at_ tg ti L2 G2 I2 H.size) ck_X2_fallenVials wd_2_68 wd_2_69 wd_2_125 ⟨Nat.le_of_ble_eq_true rfl, Nat.le_of_ble_eq_true rfl⟩ ⟨Nat.le_refl _, Nat.le_refl _⟩ (ci := 2) (q0 := 3) rfl rfl hP hD hS [3, 4, 5] rfl rfl hl rfl (Nat.le_of_ble_eq_true rfl) dX4_noneFalls_67) hP hD hS [3, 4, 5] rfl rfl rfl (fun H locs hP hD hS => ?_)
        refine lv_if_ne (tgt := 77) hx hb dX4_noneFalls_70 (by decide) (fun c2 => ?_) (fun c2 => ?_)
        · refine lv_iconst (v := 0) hx hb dX4_noneFalls_77 (by decide) ?_
          exact hend _ _ _ _ _ (by rw [← hr, lr_X4_noneFalls_23, if_pos c1, if_neg c2]) (by rw [← ho_X, lq_X4_noneFalls_23_X, if_pos c1, if_neg c2, ← ho_L2, lq_X4_noneFalls_23_L2, if_pos c1, if_neg c2, ← ho_G2, lq_X4_noneFalls_23_G2, if_pos c1, if_neg c2, ← ho_I2, lq_X4_noneFalls_23_I2, if_pos c1, if_neg c2]; exact hP) hS dX4_noneFalls_78
        · refine lv_iconst (v := 1) hx hb dX4_noneFalls_73 (by decide) ?_
          refine lv_goto (tgt := 78) hx hb dX4_noneFalls_74 (by decide) ?_
          exact hend _ _ _ _ _ (by rw [← hr, lr_X4_noneFalls_23, if_pos c1, if_pos c2]) (by rw [← ho_X, lq_X4_noneFalls_23_X, if_pos c1, if_pos c2, ← ho_L2, lq_X4_noneFalls_23_L2, if_pos c1, if_pos c2, ← ho_G2, lq_X4_noneFalls_23_G2, if_pos c1, if_pos c2, ← ho_I2, lq_X4_noneFalls_23_I2, if_pos c1, if_pos c2]; exact hP) hS dX4_noneFalls_78
      · refine lv_aload_n hx hb dX4_noneFalls_29 rfl (lv_at hl 0 rfl) ?_
        refine kget (v := .ref at_) C hP igX4 rfl 2 (by decide) wd_1_122 0 rfl rfl dX4_noneFalls_30 ?_
        refine go_i (ws' := [xc ax ar al at_ ah X, rc ar av, ac cI av 11 R, lc at_ tg ti L2, gc tg G2, gc ti I2]) C (rn_V (As := []) (rest := []) C (c_X2_vialsWithIce l D cI at_ tg ti L2 G2 I2 H.size) ck_X2_vialsWithIce wd_2_7 wd_2_8 wd_2_50 ⟨Nat.le_of_ble_eq_true rfl, Nat.le_of_ble_eq_true rfl⟩ ⟨Nat.le_refl _, Nat.le_refl _⟩ (ci := 2) (q0 := 3) rfl rfl hP hD hS [3, 4, 5] rfl rfl hl rfl (Nat.le_of_ble_eq_true rfl) dX4_noneFalls_33) hP hD hS [3, 4, 5] rfl rfl rfl (fun H locs hP hD hS => ?_)
        refine lv_if_le (tgt := 58) hx hb dX4_noneFalls_36 (by decide) (fun c3 => ?_) (fun c3 => ?_)
        · refine lv_aload_n hx hb dX4_noneFalls_58 rfl (lv_at hl 0 rfl) ?_
          refine lv_iconst (v := 1) hx hb dX4_noneFalls_59 (by decide) ?_
          refine kput (ty := .boolean) (ws' := [xc ax ar al at_ ah (x10 (X 4) (X 5) (X 6) (X 7) (X 8) 1), rc ar av, ac cI av 11 R, lc at_ tg ti L2, gc tg G2, gc ti I2]) C hP hD hS igX4 tyX4_ok nmX4 rfl 9 (by decide) wd_1_129 rfl rfl rfl rfl 0 rfl (Nat.le_of_ble_eq_true rfl) rfl dX4_noneFalls_60 (fun H locs hP hD hS => ?_)
          refine lv_aload_n hx hb dX4_noneFalls_63 rfl (lv_at hl 0 rfl) ?_
          refine kget (v := .ref at_) C hP igX4 rfl 2 (by decide) wd_1_122 0 rfl rfl dX4_noneFalls_64 ?_
          refine go_i (ws' := [xc ax ar al at_ ah (x10 (X 4) (X 5) (X 6) (X 7) (X 8) 1), rc ar av, ac cI av 11 R, lc at_ tg ti L2, gc tg G2, gc ti I2]) C (rn_V (As := []) (rest := []) C (c_X2_fallenVials l D cI at_ tg ti L2 G2 I2 H.size) ck_X2_fallenVials wd_2_68 wd_2_69 wd_2_125 ⟨Nat.le_of_ble_eq_true rfl, Nat.le_of_ble_eq_true rfl⟩ ⟨Nat.le_refl _, Nat.le_refl _⟩ (ci := 2) (q0 := 3) rfl rfl hP hD hS [3, 4, 5] rfl rfl hl rfl (Nat.le_of_ble_eq_true rfl) dX4_noneFalls_67) hP hD hS [3, 4, 5] rfl rfl rfl (fun H locs hP hD hS => ?_)
          refine lv_if_ne (tgt := 77) hx hb dX4_noneFalls_70 (by decide) (fun c4 => ?_) (fun c4 => ?_)
          · refine lv_iconst (v := 0) hx hb dX4_noneFalls_77 (by decide) ?_
            exact hend _ _ _ _ _ (by rw [← hr, lr_X4_noneFalls_23, if_neg c1, if_pos c3, if_neg c4]) (by rw [← ho_X, lq_X4_noneFalls_23_X, if_neg c1, if_pos c3, if_neg c4, ← ho_L2, lq_X4_noneFalls_23_L2, if_neg c1, if_pos c3, if_neg c4, ← ho_G2, lq_X4_noneFalls_23_G2, if_neg c1, if_pos c3, if_neg c4, ← ho_I2, lq_X4_noneFalls_23_I2, if_neg c1, if_pos c3, if_neg c4]; exact hP) hS dX4_noneFalls_78
          · refine lv_iconst (v := 1) hx hb dX4_noneFalls_73 (by decide) ?_
            refine lv_goto (tgt := 78) hx hb dX4_noneFalls_74 (by decide) ?_
            exact hend _ _ _ _ _ (by rw [← hr, lr_X4_noneFalls_23, if_neg c1, if_pos c3, if_pos c4]) (by rw [← ho_X, lq_X4_noneFalls_23_X, if_neg c1, if_pos c3, if_pos c4, ← ho_L2, lq_X4_noneFalls_23_L2, if_neg c1, if_pos c3, if_pos c4, ← ho_G2, lq_X4_noneFalls_23_G2, if_neg c1, if_pos c3, if_pos c4, ← ho_I2, lq_X4_noneFalls_23_I2, if_neg c1, if_pos c3, if_pos c4]; exact hP) hS dX4_noneFalls_78
        · refine lv_aload_n hx hb dX4_noneFalls_39 rfl (lv_at hl 0 rfl) ?_
          refine kget (v := .ref at_) C hP igX4 rfl 2 (by decide) wd_1_122 0 rfl rfl dX4_noneFalls_40 ?_
          refine lv_aload_n hx hb dX4_noneFalls_43 rfl (lv_at hl 0 rfl) ?_
          refine kget (v := .ref ar) C hP igX4 rfl 0 (by decide) wd_1_120 0 rfl rfl dX4_noneFalls_44 ?_
          refine lv_iload_n hx hb dX4_noneFalls_47 rfl (lv_at hl 1 rfl) ?_
          refine lv_iload_n hx hb dX4_noneFalls_48 rfl (lv_at hl 2 rfl) ?_
          refine go_v (ws' := [xc ax ar al at_ ah X, rc ar av, ac cI av 11 R, lc at_ tg ti (q_X2_passMinute_L L2 G2 I2 R t p0), gc tg (q_X2_passMinute_G L2 G2 R t), gc ti (q_X2_passMinute_I L2 I2 R t)]) C (rn_V (As := [.ref ar, .int t, .int p0]) (rest := []) C (c_X2_passMinute l D cI at_ tg ti L2 G2 I2 ar av R t p0 H.size) ck_X2_passMinute wd_2_23 wd_2_24 wd_2_22 ⟨Nat.le_of_ble_eq_true rfl, Nat.le_of_ble_eq_true rfl⟩ ⟨Nat.le_refl _, Nat.le_refl _⟩ (ci := 2) (q0 := 3) rfl rfl hP hD hS [3, 4, 5, 1, 2] rfl rfl hl rfl (Nat.le_of_ble_eq_true rfl) dX4_noneFalls_49) hP hD hS [3, 4, 5, 1, 2] rfl rfl rfl (fun H locs hP hD hS => ?_)
          refine lv_iinc (v := (i + 1)) (lv' := [(4, .int (i + 1)), (0, .ref ax), (1, .int t), (2, .int p0), (3, .int mn)]) hx hb dX4_noneFalls_52 hl (k := 4) rfl rfl (by decide) rfl (fun ls hl => ?_)
          refine lv_goto (tgt := 23) hx hb dX4_noneFalls_55 (by decide) ?_
          exact ih (i + 1) (q_X2_passMinute_L L2 G2 I2 R t p0) (q_X2_passMinute_G L2 G2 R t) (q_X2_passMinute_I L2 I2 R t)  (cnt2_lt c1 hm) (by rw [← hr, lr_X4_noneFalls_23, if_neg c1, if_neg c3]) (by rw [← ho_X, lq_X4_noneFalls_23_X, if_neg c1, if_neg c3]) (by rw [← ho_L2, lq_X4_noneFalls_23_L2, if_neg c1, if_neg c3]) (by rw [← ho_G2, lq_X4_noneFalls_23_G2, if_neg c1, if_neg c3]) (by rw [← ho_I2, lq_X4_noneFalls_23_I2, if_neg c1, if_neg c3]) ls H locs (lv_sub hl [1, 2, 3, 4, 0] rfl) hP hD hS
  exact lp23 (fu ((Int32.toInt mn).toNat + 1)) 0 (q_X2_start_L p0) (q_X2_start_G R (X 4) (X 5)) (q_X2_start_I R (X 4) (X 5))  (by rw [fu_eq]; have e0 : (0 : Int32).toInt = 0 := rfl; omega) (by rw [← hr, r_X4_noneFalls]) (by rw [← ho_X, q_X4_noneFalls_X]) (by rw [← ho_L2, q_X4_noneFalls_L2]) (by rw [← ho_G2, q_X4_noneFalls_G2]) (by rw [← ho_I2, q_X4_noneFalls_I2]) ls H locs (lv_sub hl [1, 2, 3, 4, 0] rfl) hP hD hS
noncomputable def r_X4_trial (X : Nat → Int32) (R : Nat → Int32) (t : Int32) (p0 : Int32) (mn : Int32) : Int32 := (if (r_X4_within t (-600) 400) = 0 then (-2) else (if (r_X4_isMapped p0 mn) = 0 then (-2) else (if (r_X4_noneFalls X R t p0 mn) = 0 then 0 else 1)))
noncomputable def q_X4_trial_X (X : Nat → Int32) (R : Nat → Int32) (t : Int32) (p0 : Int32) (mn : Int32) : Nat → Int32 := (if (r_X4_within t (-600) 400) = 0 then X else (if (r_X4_isMapped p0 mn) = 0 then X else (if (r_X4_noneFalls X R t p0 mn) = 0 then (q_X4_noneFalls_X X R t p0 mn) else (q_X4_noneFalls_X X R t p0 mn))))
noncomputable def q_X4_trial_L2 (X : Nat → Int32) (R : Nat → Int32) (L2 : Nat → Int32) (t : Int32) (p0 : Int32) (mn : Int32) : Nat → Int32 := (if (r_X4_within t (-600) 400) = 0 then L2 else (if (r_X4_isMapped p0 mn) = 0 then L2 else (if (r_X4_noneFalls X R t p0 mn) = 0 then (q_X4_noneFalls_L2 X R t p0 mn) else (q_X4_noneFalls_L2 X R t p0 mn))))
noncomputable def q_X4_trial_G2 (X : Nat → Int32) (R : Nat → Int32) (G2 : Nat → Int32) (t : Int32) (p0 : Int32) (mn : Int32) : Nat → Int32 := (if (r_X4_within t (-600) 400) = 0 then G2 else (if (r_X4_isMapped p0 mn) = 0 then G2 else (if (r_X4_noneFalls X R t p0 mn) = 0 then (q_X4_noneFalls_G2 X R t p0 mn) else (q_X4_noneFalls_G2 X R t p0 mn))))
noncomputable def q_X4_trial_I2 (X : Nat → Int32) (R : Nat → Int32) (I2 : Nat → Int32) (t : Int32) (p0 : Int32) (mn : Int32) : Nat → Int32 := (if (r_X4_within t (-600) 400) = 0 then I2 else (if (r_X4_isMapped p0 mn) = 0 then I2 else (if (r_X4_noneFalls X R t p0 mn) = 0 then (q_X4_noneFalls_I2 X R t p0 mn) else (q_X4_noneFalls_I2 X R t p0 mn))))
theorem ck_X4_trial : CK yX4_trial cX4_trial 4 (some .int) 3 := ⟨wd_2_117, wd_1_1, by decide, by decide, by decide +kernel⟩
set_option maxHeartbeats 4000000 in
set_option maxRecDepth 100000 in
theorem c_X4_trial (l : Launch) (D : va_G) (cI : ClassId) (ax : Nat) (ar : Nat) (al : Nat) (at_ : Nat) (ah : Nat) (X : Nat → Int32) (av : Nat) (R : Nat → Int32) (tg : Nat) (ti : Nat) (L2 : Nat → Int32) (G2 : Nat → Int32) (I2 : Nat → Int32) (t : Int32) (p0 : Int32) (mn : Int32) : MI l D cI yX4_trial cX4_trial 4 (some .int) 6 149 [.ref ax, .int t, .int p0, .int mn] [xc ax ar al at_ ah X, rc ar av, ac cI av 11 R, lc at_ tg ti L2, gc tg G2, gc ti I2] (r_X4_trial X R t p0 mn) [xc ax ar al at_ ah (q_X4_trial_X X R t p0 mn), rc ar av, ac cI av 11 R, lc at_ tg ti (q_X4_trial_L2 X R L2 t p0 mn), gc tg (q_X4_trial_G2 X R G2 t p0 mn), gc ti (q_X4_trial_I2 X R I2 t p0 mn)] := by
  generalize hr : (r_X4_trial X R t p0 mn) = r
  generalize ho_X : (q_X4_trial_X X R t p0 mn) = o_X
  generalize ho_L2 : (q_X4_trial_L2 X R L2 t p0 mn) = o_L2
  generalize ho_G2 : (q_X4_trial_G2 X R G2 t p0 mn) = o_G2
  generalize ho_I2 : (q_X4_trial_I2 X R I2 t p0 mn) = o_I2
  refine MI.mk (own := RX4) rfl (by decide) rfl (Nat.le_of_ble_eq_true rfl) ?_
  intro p e s m args below meth c A Q C hD hend H locs ls hP hS hl
  have hx := C.1.1
  have hb := C.1.2.1
  have hl : lv_has ls 4 [(0, .ref ax), (1, .int t), (2, .int p0), (3, .int mn)] := hl
  refine lv_iload_n hx hb dX4_trial_0 rfl (lv_at hl 1 rfl) ?_
  refine lv_sipush (v := (-600)) hx hb dX4_trial_1 (by decide) ?_
  refine lv_sipush (v := 400) hx hb dX4_trial_4 (by decide) ?_
  refine go_i (ws' := [xc ax ar al at_ ah X, rc ar av, ac cI av 11 R, lc at_ tg ti L2, gc tg G2, gc ti I2]) C (rn_S (As := [.int t, .int (-600), .int 400]) (rest := []) C (c_X4_within l D cI t (-600) 400 H.size) ck_X4_within wd_1_156 wd_1_155 ⟨Nat.le_of_ble_eq_true rfl, Nat.le_of_ble_eq_true rfl⟩ ⟨Nat.le_refl _, Nat.le_refl _⟩ hP hD hS [] rfl rfl hl rfl (Nat.le_of_ble_eq_true rfl) dX4_trial_7) hP hD hS [] rfl rfl rfl (fun H locs hP hD hS => ?_)
  refine lv_if_eq (tgt := 21) hx hb dX4_trial_10 (by decide) (fun c1 => ?_) (fun c1 => ?_)
  · refine lv_bipush (v := (-2)) hx hb dX4_trial_21 (by decide) ?_
    exact hend _ _ _ _ _ (by rw [← hr, r_X4_trial, if_pos c1]) (by rw [← ho_X, q_X4_trial_X, if_pos c1, ← ho_L2, q_X4_trial_L2, if_pos c1, ← ho_G2, q_X4_trial_G2, if_pos c1, ← ho_I2, q_X4_trial_I2, if_pos c1]; exact hP) hS dX4_trial_23
  · refine lv_iload_n hx hb dX4_trial_13 rfl (lv_at hl 2 rfl) ?_
    refine lv_iload_n hx hb dX4_trial_14 rfl (lv_at hl 3 rfl) ?_
    refine go_i (ws' := [xc ax ar al at_ ah X, rc ar av, ac cI av 11 R, lc at_ tg ti L2, gc tg G2, gc ti I2]) C (rn_S (As := [.int p0, .int mn]) (rest := []) C (c_X4_isMapped l D cI p0 mn H.size) ck_X4_isMapped wd_2_119 wd_2_118 ⟨Nat.le_of_ble_eq_true rfl, Nat.le_of_ble_eq_true rfl⟩ ⟨Nat.le_refl _, Nat.le_refl _⟩ hP hD hS [] rfl rfl hl rfl (Nat.le_of_ble_eq_true rfl) dX4_trial_15) hP hD hS [] rfl rfl rfl (fun H locs hP hD hS => ?_)
    refine lv_if_ne (tgt := 24) hx hb dX4_trial_18 (by decide) (fun c2 => ?_) (fun c2 => ?_)
    · refine lv_aload_n hx hb dX4_trial_24 rfl (lv_at hl 0 rfl) ?_
      refine lv_iload_n hx hb dX4_trial_25 rfl (lv_at hl 1 rfl) ?_
      refine lv_iload_n hx hb dX4_trial_26 rfl (lv_at hl 2 rfl) ?_
      refine lv_iload_n hx hb dX4_trial_27 rfl (lv_at hl 3 rfl) ?_
      refine go_i (ws' := [xc ax ar al at_ ah (q_X4_noneFalls_X X R t p0 mn), rc ar av, ac cI av 11 R, lc at_ tg ti (q_X4_noneFalls_L2 X R t p0 mn), gc tg (q_X4_noneFalls_G2 X R t p0 mn), gc ti (q_X4_noneFalls_I2 X R t p0 mn)]) C (rn_V (As := [.int t, .int p0, .int mn]) (rest := []) C (c_X4_noneFalls l D cI ax ar al at_ ah X av R tg ti L2 G2 I2 t p0 mn H.size) ck_X4_noneFalls wd_2_123 wd_0_4 wd_2_121 ⟨Nat.le_of_ble_eq_true rfl, Nat.le_of_ble_eq_true rfl⟩ ⟨Nat.le_refl _, Nat.le_refl _⟩ (ci := 4) (q0 := 0) rfl rfl hP hD hS [0, 1, 2, 3, 4, 5] rfl rfl hl rfl (Nat.le_of_ble_eq_true rfl) dX4_trial_28) hP hD hS [0, 1, 2, 3, 4, 5] rfl rfl rfl (fun H locs hP hD hS => ?_)
      refine lv_if_eq (tgt := 38) hx hb dX4_trial_31 (by decide) (fun c3 => ?_) (fun c3 => ?_)
      · refine lv_iconst (v := 0) hx hb dX4_trial_38 (by decide) ?_
        exact hend _ _ _ _ _ (by rw [← hr, r_X4_trial, if_neg c1, if_neg c2, if_pos c3]) (by rw [← ho_X, q_X4_trial_X, if_neg c1, if_neg c2, if_pos c3, ← ho_L2, q_X4_trial_L2, if_neg c1, if_neg c2, if_pos c3, ← ho_G2, q_X4_trial_G2, if_neg c1, if_neg c2, if_pos c3, ← ho_I2, q_X4_trial_I2, if_neg c1, if_neg c2, if_pos c3]; exact hP) hS dX4_trial_39
      · refine lv_iconst (v := 1) hx hb dX4_trial_34 (by decide) ?_
        refine lv_goto (tgt := 39) hx hb dX4_trial_35 (by decide) ?_
        exact hend _ _ _ _ _ (by rw [← hr, r_X4_trial, if_neg c1, if_neg c2, if_neg c3]) (by rw [← ho_X, q_X4_trial_X, if_neg c1, if_neg c2, if_neg c3, ← ho_L2, q_X4_trial_L2, if_neg c1, if_neg c2, if_neg c3, ← ho_G2, q_X4_trial_G2, if_neg c1, if_neg c2, if_neg c3, ← ho_I2, q_X4_trial_I2, if_neg c1, if_neg c2, if_neg c3]; exact hP) hS dX4_trial_39
    · refine lv_bipush (v := (-2)) hx hb dX4_trial_21 (by decide) ?_
      exact hend _ _ _ _ _ (by rw [← hr, r_X4_trial, if_neg c1, if_pos c2]) (by rw [← ho_X, q_X4_trial_X, if_neg c1, if_pos c2, ← ho_L2, q_X4_trial_L2, if_neg c1, if_pos c2, ← ho_G2, q_X4_trial_G2, if_neg c1, if_pos c2, ← ho_I2, q_X4_trial_I2, if_neg c1, if_pos c2]; exact hP) hS dX4_trial_23
def r_X4_tried (X : Nat → Int32) (L2 : Nat → Int32) (G2 : Nat → Int32) (I2 : Nat → Int32) (wh : Int32) : Int32 := (if (r_X4_within wh 0 4) = 0 then (-2) else (if (X 9) = 0 then (-3) else (if wh = 0 then (L2 2) else (if wh = 1 then (r_X2_firstVialToFall G2 I2) else (if wh = 2 then (if (mg_X2_firstToFall_9 G2 I2) = 0 then (G2 4) else (I2 4)) else (if wh = 3 then (L2 4) else (r_X2_vialsWithIce G2 I2)))))))
theorem ck_X4_tried : CK yX4_tried cX4_tried 2 (some .int) 1 := ⟨wd_2_129, wd_1_1, by decide, by decide, by decide +kernel⟩
set_option maxHeartbeats 4000000 in
set_option maxRecDepth 100000 in
theorem c_X4_tried (l : Launch) (D : va_G) (cI : ClassId) (ax : Nat) (ar : Nat) (al : Nat) (at_ : Nat) (ah : Nat) (X : Nat → Int32) (tg : Nat) (ti : Nat) (L2 : Nat → Int32) (G2 : Nat → Int32) (I2 : Nat → Int32) (wh : Int32) : MI l D cI yX4_tried cX4_tried 2 (some .int) 2 42 [.ref ax, .int wh] [xc ax ar al at_ ah X, lc at_ tg ti L2, gc tg G2, gc ti I2] (r_X4_tried X L2 G2 I2 wh) [xc ax ar al at_ ah X, lc at_ tg ti L2, gc tg G2, gc ti I2] := by
  generalize hr : (r_X4_tried X L2 G2 I2 wh) = r
  refine MI.mk (own := RX4) rfl (by decide) rfl (Nat.le_of_ble_eq_true rfl) ?_
  intro p e s m args below meth c A Q C hD hend H locs ls hP hS hl
  have hx := C.1.1
  have hb := C.1.2.1
  have hl : lv_has ls 2 [(0, .ref ax), (1, .int wh)] := hl
  refine lv_iload_n hx hb dX4_tried_0 rfl (lv_at hl 1 rfl) ?_
  refine lv_iconst (v := 0) hx hb dX4_tried_1 (by decide) ?_
  refine lv_iconst (v := 4) hx hb dX4_tried_2 (by decide) ?_
  refine go_i (ws' := [xc ax ar al at_ ah X, lc at_ tg ti L2, gc tg G2, gc ti I2]) C (rn_S (As := [.int wh, .int 0, .int 4]) (rest := []) C (c_X4_within l D cI wh 0 4 H.size) ck_X4_within wd_1_156 wd_1_155 ⟨Nat.le_of_ble_eq_true rfl, Nat.le_of_ble_eq_true rfl⟩ ⟨Nat.le_refl _, Nat.le_refl _⟩ hP hD hS [] rfl rfl hl rfl (Nat.le_of_ble_eq_true rfl) dX4_tried_3) hP hD hS [] rfl rfl rfl (fun H locs hP hD hS => ?_)
  refine lv_if_ne (tgt := 12) hx hb dX4_tried_6 (by decide) (fun c1 => ?_) (fun c1 => ?_)
  · refine lv_aload_n hx hb dX4_tried_12 rfl (lv_at hl 0 rfl) ?_
    refine kget (v := .int (X 9)) C hP igX4 rfl 9 (by decide) wd_1_129 0 rfl rfl dX4_tried_13 ?_
    refine lv_if_ne (tgt := 22) hx hb dX4_tried_16 (by decide) (fun c2 => ?_) (fun c2 => ?_)
    · refine lv_iload_n hx hb dX4_tried_22 rfl (lv_at hl 1 rfl) ?_
      by_cases c3 : wh = 0
      · refine lv_tableIn (off := 29) (tgt := 52) hx hb dX4_tried_23 (by rw [c3]; decide) (by rw [c3]; decide) (by rw [c3]; rfl) (by decide) ?_
        refine lv_aload_n hx hb dX4_tried_52 rfl (lv_at hl 0 rfl) ?_
        refine kget (v := .ref at_) C hP igX4 rfl 2 (by decide) wd_1_122 0 rfl rfl dX4_tried_53 ?_
        refine kget (v := .int (L2 2)) C hP igX2 rfl 2 (by decide) wd_1_82 1 rfl rfl dX4_tried_56 ?_
        exact hend _ _ _ _ _ (by rw [← hr, r_X4_tried, if_neg c1, if_neg c2, if_pos c3]) hP hS dX4_tried_59
      · skip
        by_cases c4 : wh = 1
        · refine lv_tableIn (off := 37) (tgt := 60) hx hb dX4_tried_23 (by rw [c4]; decide) (by rw [c4]; decide) (by rw [c4]; rfl) (by decide) ?_
          refine lv_aload_n hx hb dX4_tried_60 rfl (lv_at hl 0 rfl) ?_
          refine kget (v := .ref at_) C hP igX4 rfl 2 (by decide) wd_1_122 0 rfl rfl dX4_tried_61 ?_
          refine go_i (ws' := [xc ax ar al at_ ah X, lc at_ tg ti L2, gc tg G2, gc ti I2]) C (rn_V (As := []) (rest := []) C (c_X2_firstVialToFall l D cI at_ tg ti L2 G2 I2 H.size) ck_X2_firstVialToFall wd_2_107 wd_2_108 wd_2_106 ⟨Nat.le_of_ble_eq_true rfl, Nat.le_of_ble_eq_true rfl⟩ ⟨Nat.le_refl _, Nat.le_refl _⟩ (ci := 2) (q0 := 1) rfl rfl hP hD hS [1, 2, 3] rfl rfl hl rfl (Nat.le_of_ble_eq_true rfl) dX4_tried_64) hP hD hS [1, 2, 3] rfl rfl rfl (fun H locs hP hD hS => ?_)
          exact hend _ _ _ _ _ (by rw [← hr, r_X4_tried, if_neg c1, if_neg c2, if_neg c3, if_pos c4]) hP hS dX4_tried_67
        · skip
          by_cases c5 : wh = 2
          · refine lv_tableIn (off := 45) (tgt := 68) hx hb dX4_tried_23 (by rw [c5]; decide) (by rw [c5]; decide) (by rw [c5]; rfl) (by decide) ?_
            refine lv_aload_n hx hb dX4_tried_68 rfl (lv_at hl 0 rfl) ?_
            refine kget (v := .ref at_) C hP igX4 rfl 2 (by decide) wd_1_122 0 rfl rfl dX4_tried_69 ?_
            refine go_r (ws' := [xc ax ar al at_ ah X, lc at_ tg ti L2, gc tg G2, gc ti I2]) C (rn_V (As := []) (rest := []) C (c_X2_firstToFall l D cI at_ tg ti L2 G2 I2 H.size) ck_X2_firstToFall wd_2_111 wd_2_112 wd_2_130 ⟨Nat.le_of_ble_eq_true rfl, Nat.le_of_ble_eq_true rfl⟩ ⟨Nat.le_refl _, Nat.le_refl _⟩ (ci := 2) (q0 := 1) rfl rfl hP hD hS [1, 2, 3] rfl rfl hl rfl (Nat.le_of_ble_eq_true rfl) dX4_tried_72) hP hD hS [1, 2, 3] rfl rfl rfl (fun H locs hP hD hS => ?_)
            by_cases c6 : (mg_X2_firstToFall_9 G2 I2) = 0
            · rw [show (r_X2_firstToFall tg ti G2 I2) = tg from by rw [r_X2_firstToFall, if_pos c6]]
              refine kget (v := .int (G2 4)) C hP igX0 rfl 4 (by decide) wd_1_55 2 rfl rfl dX4_tried_75 ?_
              exact hend _ _ _ _ _ (by rw [← hr, r_X4_tried, if_neg c1, if_neg c2, if_neg c3, if_neg c4, if_pos c5, if_pos c6]) hP hS dX4_tried_78
            · rw [show (r_X2_firstToFall tg ti G2 I2) = ti from by rw [r_X2_firstToFall, if_neg c6]]
              refine kget (v := .int (I2 4)) C hP igX0 rfl 4 (by decide) wd_1_55 3 rfl rfl dX4_tried_75 ?_
              exact hend _ _ _ _ _ (by rw [← hr, r_X4_tried, if_neg c1, if_neg c2, if_neg c3, if_neg c4, if_pos c5, if_neg c6]) hP hS dX4_tried_78
          · skip
            by_cases c7 : wh = 3
            · refine lv_tableIn (off := 56) (tgt := 79) hx hb dX4_tried_23 (by rw [c7]; decide) (by rw [c7]; decide) (by rw [c7]; rfl) (by decide) ?_
              refine lv_aload_n hx hb dX4_tried_79 rfl (lv_at hl 0 rfl) ?_
              refine kget (v := .ref at_) C hP igX4 rfl 2 (by decide) wd_1_122 0 rfl rfl dX4_tried_80 ?_
              refine kget (v := .int (L2 4)) C hP igX2 rfl 4 (by decide) wd_1_86 1 rfl rfl dX4_tried_83 ?_
              exact hend _ _ _ _ _ (by rw [← hr, r_X4_tried, if_neg c1, if_neg c2, if_neg c3, if_neg c4, if_neg c5, if_pos c7]) hP hS dX4_tried_86
            · skip
              refine lv_tableOut (tgt := 87) hx hb dX4_tried_23 (ts_out (fun k h1 h2 => by rcases (by omega : k = 0 ∨ k = 1 ∨ k = 2 ∨ k = 3) with rfl | rfl | rfl | rfl <;> assumption)) (by decide) ?_
              refine lv_aload_n hx hb dX4_tried_87 rfl (lv_at hl 0 rfl) ?_
              refine kget (v := .ref at_) C hP igX4 rfl 2 (by decide) wd_1_122 0 rfl rfl dX4_tried_88 ?_
              refine go_i (ws' := [xc ax ar al at_ ah X, lc at_ tg ti L2, gc tg G2, gc ti I2]) C (rn_V (As := []) (rest := []) C (c_X2_vialsWithIce l D cI at_ tg ti L2 G2 I2 H.size) ck_X2_vialsWithIce wd_2_7 wd_2_8 wd_2_50 ⟨Nat.le_of_ble_eq_true rfl, Nat.le_of_ble_eq_true rfl⟩ ⟨Nat.le_refl _, Nat.le_refl _⟩ (ci := 2) (q0 := 1) rfl rfl hP hD hS [1, 2, 3] rfl rfl hl rfl (Nat.le_of_ble_eq_true rfl) dX4_tried_91) hP hD hS [1, 2, 3] rfl rfl rfl (fun H locs hP hD hS => ?_)
              exact hend _ _ _ _ _ (by rw [← hr, r_X4_tried, if_neg c1, if_neg c2, if_neg c3, if_neg c4, if_neg c5, if_neg c7]) hP hS dX4_tried_94
    · refine lv_bipush (v := (-3)) hx hb dX4_tried_19 (by decide) ?_
      exact hend _ _ _ _ _ (by rw [← hr, r_X4_tried, if_neg c1, if_pos c2]) hP hS dX4_tried_21
  · refine lv_bipush (v := (-2)) hx hb dX4_tried_9 (by decide) ?_
    exact hend _ _ _ _ _ (by rw [← hr, r_X4_tried, if_pos c1]) hP hS dX4_tried_11
noncomputable def lr_X4_edge_21 (R : Nat → Int32) (p0 : Int32) (mn : Int32) : Nat → (Int32) → (Int32) → (Nat → Int32) → (Nat → Int32) → (Nat → Int32) → (Nat → Int32) → (Int32)
  | 0, _, _, _, _, _, _ => 0
  | n + 1, sf, t, X, L2, G2, I2 => (if 400 < t then sf else (if (r_X4_noneFalls X R t p0 mn) = 0 then sf else (lr_X4_edge_21 R p0 mn n t (t + 50) (q_X4_noneFalls_X X R t p0 mn) (q_X4_noneFalls_L2 X R t p0 mn) (q_X4_noneFalls_G2 X R t p0 mn) (q_X4_noneFalls_I2 X R t p0 mn))))
noncomputable def lq_X4_edge_21_X (R : Nat → Int32) (p0 : Int32) (mn : Int32) : Nat → (Int32) → (Int32) → (Nat → Int32) → (Nat → Int32) → (Nat → Int32) → (Nat → Int32) → (Nat → Int32)
  | 0, _, _, _, _, _, _ => fun _ => 0
  | n + 1, sf, t, X, L2, G2, I2 => (if 400 < t then X else (if (r_X4_noneFalls X R t p0 mn) = 0 then (q_X4_noneFalls_X X R t p0 mn) else (lq_X4_edge_21_X R p0 mn n t (t + 50) (q_X4_noneFalls_X X R t p0 mn) (q_X4_noneFalls_L2 X R t p0 mn) (q_X4_noneFalls_G2 X R t p0 mn) (q_X4_noneFalls_I2 X R t p0 mn))))
noncomputable def lq_X4_edge_21_L2 (R : Nat → Int32) (p0 : Int32) (mn : Int32) : Nat → (Int32) → (Int32) → (Nat → Int32) → (Nat → Int32) → (Nat → Int32) → (Nat → Int32) → (Nat → Int32)
  | 0, _, _, _, _, _, _ => fun _ => 0
  | n + 1, sf, t, X, L2, G2, I2 => (if 400 < t then L2 else (if (r_X4_noneFalls X R t p0 mn) = 0 then (q_X4_noneFalls_L2 X R t p0 mn) else (lq_X4_edge_21_L2 R p0 mn n t (t + 50) (q_X4_noneFalls_X X R t p0 mn) (q_X4_noneFalls_L2 X R t p0 mn) (q_X4_noneFalls_G2 X R t p0 mn) (q_X4_noneFalls_I2 X R t p0 mn))))
noncomputable def lq_X4_edge_21_G2 (R : Nat → Int32) (p0 : Int32) (mn : Int32) : Nat → (Int32) → (Int32) → (Nat → Int32) → (Nat → Int32) → (Nat → Int32) → (Nat → Int32) → (Nat → Int32)
  | 0, _, _, _, _, _, _ => fun _ => 0
  | n + 1, sf, t, X, L2, G2, I2 => (if 400 < t then G2 else (if (r_X4_noneFalls X R t p0 mn) = 0 then (q_X4_noneFalls_G2 X R t p0 mn) else (lq_X4_edge_21_G2 R p0 mn n t (t + 50) (q_X4_noneFalls_X X R t p0 mn) (q_X4_noneFalls_L2 X R t p0 mn) (q_X4_noneFalls_G2 X R t p0 mn) (q_X4_noneFalls_I2 X R t p0 mn))))
noncomputable def lq_X4_edge_21_I2 (R : Nat → Int32) (p0 : Int32) (mn : Int32) : Nat → (Int32) → (Int32) → (Nat → Int32) → (Nat → Int32) → (Nat → Int32) → (Nat → Int32) → (Nat → Int32)
  | 0, _, _, _, _, _, _ => fun _ => 0
  | n + 1, sf, t, X, L2, G2, I2 => (if 400 < t then I2 else (if (r_X4_noneFalls X R t p0 mn) = 0 then (q_X4_noneFalls_I2 X R t p0 mn) else (lq_X4_edge_21_I2 R p0 mn n t (t + 50) (q_X4_noneFalls_X X R t p0 mn) (q_X4_noneFalls_L2 X R t p0 mn) (q_X4_noneFalls_G2 X R t p0 mn) (q_X4_noneFalls_I2 X R t p0 mn))))
noncomputable def r_X4_edge (X : Nat → Int32) (R : Nat → Int32) (L2 : Nat → Int32) (G2 : Nat → Int32) (I2 : Nat → Int32) (p0 : Int32) (mn : Int32) : Int32 := (if (r_X4_isMapped p0 mn) = 0 then (-10002) else (lr_X4_edge_21 R p0 mn (fu 1051) (-10000) (-600) X L2 G2 I2))
noncomputable def q_X4_edge_X (X : Nat → Int32) (R : Nat → Int32) (L2 : Nat → Int32) (G2 : Nat → Int32) (I2 : Nat → Int32) (p0 : Int32) (mn : Int32) : Nat → Int32 := (if (r_X4_isMapped p0 mn) = 0 then X else (lq_X4_edge_21_X R p0 mn (fu 1051) (-10000) (-600) X L2 G2 I2))
noncomputable def q_X4_edge_L2 (X : Nat → Int32) (R : Nat → Int32) (L2 : Nat → Int32) (G2 : Nat → Int32) (I2 : Nat → Int32) (p0 : Int32) (mn : Int32) : Nat → Int32 := (if (r_X4_isMapped p0 mn) = 0 then L2 else (lq_X4_edge_21_L2 R p0 mn (fu 1051) (-10000) (-600) X L2 G2 I2))
noncomputable def q_X4_edge_G2 (X : Nat → Int32) (R : Nat → Int32) (L2 : Nat → Int32) (G2 : Nat → Int32) (I2 : Nat → Int32) (p0 : Int32) (mn : Int32) : Nat → Int32 := (if (r_X4_isMapped p0 mn) = 0 then G2 else (lq_X4_edge_21_G2 R p0 mn (fu 1051) (-10000) (-600) X L2 G2 I2))
noncomputable def q_X4_edge_I2 (X : Nat → Int32) (R : Nat → Int32) (L2 : Nat → Int32) (G2 : Nat → Int32) (I2 : Nat → Int32) (p0 : Int32) (mn : Int32) : Nat → Int32 := (if (r_X4_isMapped p0 mn) = 0 then I2 else (lq_X4_edge_21_I2 R p0 mn (fu 1051) (-10000) (-600) X L2 G2 I2))
theorem ck_X4_edge : CK yX4_edge cX4_edge 5 (some .int) 2 := ⟨wd_2_134, wd_1_1, by decide, by decide, by decide +kernel⟩
set_option maxHeartbeats 4000000 in
set_option maxRecDepth 100000 in
theorem c_X4_edge (l : Launch) (D : va_G) (cI : ClassId) (ax : Nat) (ar : Nat) (al : Nat) (at_ : Nat) (ah : Nat) (X : Nat → Int32) (av : Nat) (R : Nat → Int32) (tg : Nat) (ti : Nat) (L2 : Nat → Int32) (G2 : Nat → Int32) (I2 : Nat → Int32) (p0 : Int32) (mn : Int32) : MI l D cI yX4_edge cX4_edge 5 (some .int) 6 149 [.ref ax, .int p0, .int mn] [xc ax ar al at_ ah X, rc ar av, ac cI av 11 R, lc at_ tg ti L2, gc tg G2, gc ti I2] (r_X4_edge X R L2 G2 I2 p0 mn) [xc ax ar al at_ ah (q_X4_edge_X X R L2 G2 I2 p0 mn), rc ar av, ac cI av 11 R, lc at_ tg ti (q_X4_edge_L2 X R L2 G2 I2 p0 mn), gc tg (q_X4_edge_G2 X R L2 G2 I2 p0 mn), gc ti (q_X4_edge_I2 X R L2 G2 I2 p0 mn)] := by
  generalize hr : (r_X4_edge X R L2 G2 I2 p0 mn) = r
  generalize ho_X : (q_X4_edge_X X R L2 G2 I2 p0 mn) = o_X
  generalize ho_L2 : (q_X4_edge_L2 X R L2 G2 I2 p0 mn) = o_L2
  generalize ho_G2 : (q_X4_edge_G2 X R L2 G2 I2 p0 mn) = o_G2
  generalize ho_I2 : (q_X4_edge_I2 X R L2 G2 I2 p0 mn) = o_I2
  refine MI.mk (own := RX4) rfl (by decide) rfl (Nat.le_of_ble_eq_true rfl) ?_
  intro p e s m args below meth c A Q C hD hend H locs ls hP hS hl
  have hx := C.1.1
  have hb := C.1.2.1
  have hl : lv_has ls 5 [(0, .ref ax), (1, .int p0), (2, .int mn)] := hl
  refine lv_iload_n hx hb dX4_edge_0 rfl (lv_at hl 1 rfl) ?_
  refine lv_iload_n hx hb dX4_edge_1 rfl (lv_at hl 2 rfl) ?_
  refine go_i (ws' := [xc ax ar al at_ ah X, rc ar av, ac cI av 11 R, lc at_ tg ti L2, gc tg G2, gc ti I2]) C (rn_S (As := [.int p0, .int mn]) (rest := []) C (c_X4_isMapped l D cI p0 mn H.size) ck_X4_isMapped wd_2_119 wd_2_118 ⟨Nat.le_of_ble_eq_true rfl, Nat.le_of_ble_eq_true rfl⟩ ⟨Nat.le_refl _, Nat.le_refl _⟩ hP hD hS [] rfl rfl hl rfl (Nat.le_of_ble_eq_true rfl) dX4_edge_2) hP hD hS [] rfl rfl rfl (fun H locs hP hD hS => ?_)
  refine lv_if_ne (tgt := 12) hx hb dX4_edge_5 (by decide) (fun c1 => ?_) (fun c1 => ?_)
  · refine lv_sipush (v := (-10000)) hx hb dX4_edge_12 (by decide) ?_
    refine lv_istore_n (lv' := [(3, .int (-10000)), (0, .ref ax), (1, .int p0), (2, .int mn)]) hx hb dX4_edge_15 rfl hl (by decide) rfl (fun ls hl => ?_)
    refine lv_sipush (v := (-600)) hx hb dX4_edge_16 (by decide) ?_
    refine lv_istore (lv' := [(4, .int (-600)), (3, .int (-10000)), (0, .ref ax), (1, .int p0), (2, .int mn)]) hx hb dX4_edge_19 hl (by decide) rfl (fun ls hl => ?_)
    have lp21 : ∀ (n : Nat) (sf : Int32) (t : Int32) (X : Nat → Int32) (L2 : Nat → Int32) (G2 : Nat → Int32) (I2 : Nat → Int32), (450 - Int32.toInt t).toNat < n → lr_X4_edge_21 R p0 mn n sf t X L2 G2 I2 = r → lq_X4_edge_21_X R p0 mn n sf t X L2 G2 I2 = o_X → lq_X4_edge_21_L2 R p0 mn n sf t X L2 G2 I2 = o_L2 → lq_X4_edge_21_G2 R p0 mn n sf t X L2 G2 I2 = o_G2 → lq_X4_edge_21_I2 R p0 mn n sf t X L2 G2 I2 = o_I2 → ∀ (ls : Array Slot) (H : Heap) (locs : List Loc), lv_has ls 5 [(0, .ref ax), (1, .int p0), (2, .int mn), (3, .int sf), (4, .int t)] → va_P D vwCl [xc ax ar al at_ ah X, rc ar av, ac cI av 11 R, lc at_ tg ti L2, gc tg G2, gc ti I2] H → va_D A [xc ax ar al at_ ah X, rc ar av, ac cI av 11 R, lc at_ tg ti L2, gc tg G2, gc ti I2] → va_S A s.heap H locs → W p l e (RM 6 149) s m args below meth c H locs 0 0 Q (F0 m 21 ls []) := by
      clear hl hP hD hS
      intro n
      induction n with
      | zero =>
        intro sf t X L2 G2 I2  hm
        exact absurd hm (Nat.not_lt_zero _)
      | succ n ih =>
        intro sf t X L2 G2 I2  hm hr ho_X ho_L2 ho_G2 ho_I2 ls H locs hl hP hD hS
        refine lv_iload hx hb dX4_edge_21 (lv_at hl 4 rfl) ?_
        refine lv_sipush (v := 400) hx hb dX4_edge_23 (by decide) ?_
        refine lv_icmp_gt (tgt := 51) hx hb dX4_edge_26 (by decide) (fun c2 => ?_) (fun c2 => ?_)
        · refine lv_iload_n hx hb dX4_edge_51 rfl (lv_at hl 3 rfl) ?_
          exact hend _ _ _ _ _ (by rw [← hr, lr_X4_edge_21, if_pos c2]) (by rw [← ho_X, lq_X4_edge_21_X, if_pos c2, ← ho_L2, lq_X4_edge_21_L2, if_pos c2, ← ho_G2, lq_X4_edge_21_G2, if_pos c2, ← ho_I2, lq_X4_edge_21_I2, if_pos c2]; exact hP) hS dX4_edge_52
        · refine lv_aload_n hx hb dX4_edge_29 rfl (lv_at hl 0 rfl) ?_
          refine lv_iload hx hb dX4_edge_30 (lv_at hl 4 rfl) ?_
          refine lv_iload_n hx hb dX4_edge_32 rfl (lv_at hl 1 rfl) ?_
          refine lv_iload_n hx hb dX4_edge_33 rfl (lv_at hl 2 rfl) ?_
          refine go_i (ws' := [xc ax ar al at_ ah (q_X4_noneFalls_X X R t p0 mn), rc ar av, ac cI av 11 R, lc at_ tg ti (q_X4_noneFalls_L2 X R t p0 mn), gc tg (q_X4_noneFalls_G2 X R t p0 mn), gc ti (q_X4_noneFalls_I2 X R t p0 mn)]) C (rn_V (As := [.int t, .int p0, .int mn]) (rest := []) C (c_X4_noneFalls l D cI ax ar al at_ ah X av R tg ti L2 G2 I2 t p0 mn H.size) ck_X4_noneFalls wd_2_123 wd_0_4 wd_2_121 ⟨Nat.le_of_ble_eq_true rfl, Nat.le_of_ble_eq_true rfl⟩ ⟨Nat.le_refl _, Nat.le_refl _⟩ (ci := 4) (q0 := 0) rfl rfl hP hD hS [0, 1, 2, 3, 4, 5] rfl rfl hl rfl (Nat.le_of_ble_eq_true rfl) dX4_edge_34) hP hD hS [0, 1, 2, 3, 4, 5] rfl rfl rfl (fun H locs hP hD hS => ?_)
          refine lv_if_ne (tgt := 42) hx hb dX4_edge_37 (by decide) (fun c3 => ?_) (fun c3 => ?_)
          · refine lv_iload hx hb dX4_edge_42 (lv_at hl 4 rfl) ?_
            refine lv_istore_n (lv' := [(3, .int t), (0, .ref ax), (1, .int p0), (2, .int mn), (4, .int t)]) hx hb dX4_edge_44 rfl hl (by decide) rfl (fun ls hl => ?_)
            refine lv_iinc (v := (t + 50)) (lv' := [(4, .int (t + 50)), (3, .int t), (0, .ref ax), (1, .int p0), (2, .int mn)]) hx hb dX4_edge_45 hl (k := 4) rfl rfl (by decide) rfl (fun ls hl => ?_)
            refine lv_goto (tgt := 21) hx hb dX4_edge_48 (by decide) ?_
            exact ih t (t + 50) (q_X4_noneFalls_X X R t p0 mn) (q_X4_noneFalls_L2 X R t p0 mn) (q_X4_noneFalls_G2 X R t p0 mn) (q_X4_noneFalls_I2 X R t p0 mn)  (cnt3_lt c2 hm) (by rw [← hr, lr_X4_edge_21, if_neg c2, if_neg c3]) (by rw [← ho_X, lq_X4_edge_21_X, if_neg c2, if_neg c3]) (by rw [← ho_L2, lq_X4_edge_21_L2, if_neg c2, if_neg c3]) (by rw [← ho_G2, lq_X4_edge_21_G2, if_neg c2, if_neg c3]) (by rw [← ho_I2, lq_X4_edge_21_I2, if_neg c2, if_neg c3]) ls H locs (lv_sub hl [2, 3, 4, 1, 0] rfl) hP hD hS
          · refine lv_iload_n hx hb dX4_edge_40 rfl (lv_at hl 3 rfl) ?_
            exact hend _ _ _ _ _ (by rw [← hr, lr_X4_edge_21, if_neg c2, if_pos c3]) (by rw [← ho_X, lq_X4_edge_21_X, if_neg c2, if_pos c3, ← ho_L2, lq_X4_edge_21_L2, if_neg c2, if_pos c3, ← ho_G2, lq_X4_edge_21_G2, if_neg c2, if_pos c3, ← ho_I2, lq_X4_edge_21_I2, if_neg c2, if_pos c3]; exact hP) hS dX4_edge_41
    exact lp21 (fu 1051) (-10000) (-600) X L2 G2 I2  (by rw [fu_eq]; decide) (by rw [← hr, r_X4_edge, if_neg c1]) (by rw [← ho_X, q_X4_edge_X, if_neg c1]) (by rw [← ho_L2, q_X4_edge_L2, if_neg c1]) (by rw [← ho_G2, q_X4_edge_G2, if_neg c1]) (by rw [← ho_I2, q_X4_edge_I2, if_neg c1]) ls H locs (lv_sub hl [2, 3, 4, 1, 0] rfl) hP hD hS
  · refine lv_sipush (v := (-10002)) hx hb dX4_edge_8 (by decide) ?_
    exact hend _ _ _ _ _ (by rw [← hr, r_X4_edge, if_pos c1]) (by rw [← ho_X, q_X4_edge_X, if_pos c1, ← ho_L2, q_X4_edge_L2, if_pos c1, ← ho_G2, q_X4_edge_G2, if_pos c1, ← ho_I2, q_X4_edge_I2, if_pos c1]; exact hP) hS dX4_edge_11
def r_X4_told (X : Nat → Int32) (R : Nat → Int32) (wh : Int32) : Int32 := (if wh < 10 then (if wh = 0 then (X 4) else (if wh = 1 then (X 5) else (if wh = 2 then (r_X4_places X) else (if wh = 3 then (if (X 8) = 0 then 0 else 1) else (-10002))))) else (if (r_X3_has (wh - 10)) = 0 then (if wh = 0 then (X 4) else (if wh = 1 then (X 5) else (if wh = 2 then (r_X4_places X) else (if wh = 3 then (if (X 8) = 0 then 0 else 1) else (-10002))))) else (r_X3_valueOf R (wh - 10))))
theorem ck_X4_told : CK yX4_told cX4_told 2 (some .int) 1 := ⟨wd_2_138, wd_1_1, by decide, by decide, by decide +kernel⟩
set_option maxHeartbeats 4000000 in
set_option maxRecDepth 100000 in
theorem c_X4_told (l : Launch) (D : va_G) (cI : ClassId) (ax : Nat) (ar : Nat) (al : Nat) (at_ : Nat) (ah : Nat) (X : Nat → Int32) (av : Nat) (R : Nat → Int32) (wh : Int32) : MI l D cI yX4_told cX4_told 2 (some .int) 3 63 [.ref ax, .int wh] [xc ax ar al at_ ah X, rc ar av, ac cI av 11 R] (r_X4_told X R wh) [xc ax ar al at_ ah X, rc ar av, ac cI av 11 R] := by
  generalize hr : (r_X4_told X R wh) = r
  refine MI.mk (own := RX4) rfl (by decide) rfl (Nat.le_of_ble_eq_true rfl) ?_
  intro p e s m args below meth c A Q C hD hend H locs ls hP hS hl
  have hx := C.1.1
  have hb := C.1.2.1
  have hl : lv_has ls 2 [(0, .ref ax), (1, .int wh)] := hl
  refine lv_iload_n hx hb dX4_told_0 rfl (lv_at hl 1 rfl) ?_
  refine lv_bipush (v := 10) hx hb dX4_told_1 (by decide) ?_
  refine lv_icmp_lt (tgt := 28) hx hb dX4_told_3 (by decide) (fun c1 => ?_) (fun c1 => ?_)
  · refine lv_iload_n hx hb dX4_told_28 rfl (lv_at hl 1 rfl) ?_
    by_cases c2 : wh = 0
    · refine lv_tableIn (off := 31) (tgt := 60) hx hb dX4_told_29 (by rw [c2]; decide) (by rw [c2]; decide) (by rw [c2]; rfl) (by decide) ?_
      refine lv_aload_n hx hb dX4_told_60 rfl (lv_at hl 0 rfl) ?_
      refine kget (v := .int (X 4)) C hP igX4 rfl 4 (by decide) wd_1_124 0 rfl rfl dX4_told_61 ?_
      exact hend _ _ _ _ _ (by rw [← hr, r_X4_told, if_pos c1, if_pos c2]) hP hS dX4_told_64
    · skip
      by_cases c3 : wh = 1
      · refine lv_tableIn (off := 36) (tgt := 65) hx hb dX4_told_29 (by rw [c3]; decide) (by rw [c3]; decide) (by rw [c3]; rfl) (by decide) ?_
        refine lv_aload_n hx hb dX4_told_65 rfl (lv_at hl 0 rfl) ?_
        refine kget (v := .int (X 5)) C hP igX4 rfl 5 (by decide) wd_1_125 0 rfl rfl dX4_told_66 ?_
        exact hend _ _ _ _ _ (by rw [← hr, r_X4_told, if_pos c1, if_neg c2, if_pos c3]) hP hS dX4_told_69
      · skip
        by_cases c4 : wh = 2
        · refine lv_tableIn (off := 41) (tgt := 70) hx hb dX4_told_29 (by rw [c4]; decide) (by rw [c4]; decide) (by rw [c4]; rfl) (by decide) ?_
          refine lv_aload_n hx hb dX4_told_70 rfl (lv_at hl 0 rfl) ?_
          refine go_i (ws' := [xc ax ar al at_ ah X, rc ar av, ac cI av 11 R]) C (rn_V (As := []) (rest := []) C (c_X4_places l D cI ax ar al at_ ah X H.size) ck_X4_places wd_1_160 wd_0_0 wd_1_158 ⟨Nat.le_of_ble_eq_true rfl, Nat.le_of_ble_eq_true rfl⟩ ⟨Nat.le_refl _, Nat.le_refl _⟩ (ci := 4) (q0 := 0) rfl rfl hP hD hS [0] rfl rfl hl rfl (Nat.le_of_ble_eq_true rfl) dX4_told_71) hP hD hS [0] rfl rfl rfl (fun H locs hP hD hS => ?_)
          exact hend _ _ _ _ _ (by rw [← hr, r_X4_told, if_pos c1, if_neg c2, if_neg c3, if_pos c4]) hP hS dX4_told_74
        · skip
          by_cases c5 : wh = 3
          · refine lv_tableIn (off := 46) (tgt := 75) hx hb dX4_told_29 (by rw [c5]; decide) (by rw [c5]; decide) (by rw [c5]; rfl) (by decide) ?_
            refine lv_aload_n hx hb dX4_told_75 rfl (lv_at hl 0 rfl) ?_
            refine kget (v := .int (X 8)) C hP igX4 rfl 8 (by decide) wd_1_128 0 rfl rfl dX4_told_76 ?_
            refine lv_if_eq (tgt := 86) hx hb dX4_told_79 (by decide) (fun c6 => ?_) (fun c6 => ?_)
            · refine lv_iconst (v := 0) hx hb dX4_told_86 (by decide) ?_
              exact hend _ _ _ _ _ (by rw [← hr, r_X4_told, if_pos c1, if_neg c2, if_neg c3, if_neg c4, if_pos c5, if_pos c6]) hP hS dX4_told_87
            · refine lv_iconst (v := 1) hx hb dX4_told_82 (by decide) ?_
              refine lv_goto (tgt := 87) hx hb dX4_told_83 (by decide) ?_
              exact hend _ _ _ _ _ (by rw [← hr, r_X4_told, if_pos c1, if_neg c2, if_neg c3, if_neg c4, if_pos c5, if_neg c6]) hP hS dX4_told_87
          · skip
            refine lv_tableOut (tgt := 88) hx hb dX4_told_29 (ts_out (fun k h1 h2 => by rcases (by omega : k = 0 ∨ k = 1 ∨ k = 2 ∨ k = 3) with rfl | rfl | rfl | rfl <;> assumption)) (by decide) ?_
            refine lv_sipush (v := (-10002)) hx hb dX4_told_88 (by decide) ?_
            exact hend _ _ _ _ _ (by rw [← hr, r_X4_told, if_pos c1, if_neg c2, if_neg c3, if_neg c4, if_neg c5]) hP hS dX4_told_91
  · refine lv_iload_n hx hb dX4_told_6 rfl (lv_at hl 1 rfl) ?_
    refine lv_bipush (v := 10) hx hb dX4_told_7 (by decide) ?_
    refine lv_isub hx hb dX4_told_9 ?_
    refine go_i (ws' := [xc ax ar al at_ ah X, rc ar av, ac cI av 11 R]) C (rn_S (As := [.int (wh - 10)]) (rest := []) C (c_X3_has l D cI (wh - 10) H.size) ck_X3_has wd_1_167 wd_1_166 ⟨Nat.le_of_ble_eq_true rfl, Nat.le_of_ble_eq_true rfl⟩ ⟨Nat.le_refl _, Nat.le_refl _⟩ hP hD hS [] rfl rfl hl rfl (Nat.le_of_ble_eq_true rfl) dX4_told_10) hP hD hS [] rfl rfl rfl (fun H locs hP hD hS => ?_)
    refine lv_if_eq (tgt := 28) hx hb dX4_told_13 (by decide) (fun c7 => ?_) (fun c7 => ?_)
    · refine lv_iload_n hx hb dX4_told_28 rfl (lv_at hl 1 rfl) ?_
      by_cases c8 : wh = 0
      · refine lv_tableIn (off := 31) (tgt := 60) hx hb dX4_told_29 (by rw [c8]; decide) (by rw [c8]; decide) (by rw [c8]; rfl) (by decide) ?_
        refine lv_aload_n hx hb dX4_told_60 rfl (lv_at hl 0 rfl) ?_
        refine kget (v := .int (X 4)) C hP igX4 rfl 4 (by decide) wd_1_124 0 rfl rfl dX4_told_61 ?_
        exact hend _ _ _ _ _ (by rw [← hr, r_X4_told, if_neg c1, if_pos c7, if_pos c8]) hP hS dX4_told_64
      · skip
        by_cases c9 : wh = 1
        · refine lv_tableIn (off := 36) (tgt := 65) hx hb dX4_told_29 (by rw [c9]; decide) (by rw [c9]; decide) (by rw [c9]; rfl) (by decide) ?_
          refine lv_aload_n hx hb dX4_told_65 rfl (lv_at hl 0 rfl) ?_
          refine kget (v := .int (X 5)) C hP igX4 rfl 5 (by decide) wd_1_125 0 rfl rfl dX4_told_66 ?_
          exact hend _ _ _ _ _ (by rw [← hr, r_X4_told, if_neg c1, if_pos c7, if_neg c8, if_pos c9]) hP hS dX4_told_69
        · skip
          by_cases c10 : wh = 2
          · refine lv_tableIn (off := 41) (tgt := 70) hx hb dX4_told_29 (by rw [c10]; decide) (by rw [c10]; decide) (by rw [c10]; rfl) (by decide) ?_
            refine lv_aload_n hx hb dX4_told_70 rfl (lv_at hl 0 rfl) ?_
            refine go_i (ws' := [xc ax ar al at_ ah X, rc ar av, ac cI av 11 R]) C (rn_V (As := []) (rest := []) C (c_X4_places l D cI ax ar al at_ ah X H.size) ck_X4_places wd_1_160 wd_0_0 wd_1_158 ⟨Nat.le_of_ble_eq_true rfl, Nat.le_of_ble_eq_true rfl⟩ ⟨Nat.le_refl _, Nat.le_refl _⟩ (ci := 4) (q0 := 0) rfl rfl hP hD hS [0] rfl rfl hl rfl (Nat.le_of_ble_eq_true rfl) dX4_told_71) hP hD hS [0] rfl rfl rfl (fun H locs hP hD hS => ?_)
            exact hend _ _ _ _ _ (by rw [← hr, r_X4_told, if_neg c1, if_pos c7, if_neg c8, if_neg c9, if_pos c10]) hP hS dX4_told_74
          · skip
            by_cases c11 : wh = 3
            · refine lv_tableIn (off := 46) (tgt := 75) hx hb dX4_told_29 (by rw [c11]; decide) (by rw [c11]; decide) (by rw [c11]; rfl) (by decide) ?_
              refine lv_aload_n hx hb dX4_told_75 rfl (lv_at hl 0 rfl) ?_
              refine kget (v := .int (X 8)) C hP igX4 rfl 8 (by decide) wd_1_128 0 rfl rfl dX4_told_76 ?_
              refine lv_if_eq (tgt := 86) hx hb dX4_told_79 (by decide) (fun c12 => ?_) (fun c12 => ?_)
              · refine lv_iconst (v := 0) hx hb dX4_told_86 (by decide) ?_
                exact hend _ _ _ _ _ (by rw [← hr, r_X4_told, if_neg c1, if_pos c7, if_neg c8, if_neg c9, if_neg c10, if_pos c11, if_pos c12]) hP hS dX4_told_87
              · refine lv_iconst (v := 1) hx hb dX4_told_82 (by decide) ?_
                refine lv_goto (tgt := 87) hx hb dX4_told_83 (by decide) ?_
                exact hend _ _ _ _ _ (by rw [← hr, r_X4_told, if_neg c1, if_pos c7, if_neg c8, if_neg c9, if_neg c10, if_pos c11, if_neg c12]) hP hS dX4_told_87
            · skip
              refine lv_tableOut (tgt := 88) hx hb dX4_told_29 (ts_out (fun k h1 h2 => by rcases (by omega : k = 0 ∨ k = 1 ∨ k = 2 ∨ k = 3) with rfl | rfl | rfl | rfl <;> assumption)) (by decide) ?_
              refine lv_sipush (v := (-10002)) hx hb dX4_told_88 (by decide) ?_
              exact hend _ _ _ _ _ (by rw [← hr, r_X4_told, if_neg c1, if_pos c7, if_neg c8, if_neg c9, if_neg c10, if_neg c11]) hP hS dX4_told_91
    · refine lv_aload_n hx hb dX4_told_16 rfl (lv_at hl 0 rfl) ?_
      refine kget (v := .ref ar) C hP igX4 rfl 0 (by decide) wd_1_120 0 rfl rfl dX4_told_17 ?_
      refine lv_iload_n hx hb dX4_told_20 rfl (lv_at hl 1 rfl) ?_
      refine lv_bipush (v := 10) hx hb dX4_told_21 (by decide) ?_
      refine lv_isub hx hb dX4_told_23 ?_
      refine go_i (ws' := [xc ax ar al at_ ah X, rc ar av, ac cI av 11 R]) C (rn_V (As := [.int (wh - 10)]) (rest := []) C (c_X3_valueOf l D cI ar av R (wh - 10) H.size) ck_X3_valueOf wd_1_183 wd_1_184 wd_2_139 ⟨Nat.le_of_ble_eq_true rfl, Nat.le_of_ble_eq_true rfl⟩ ⟨Nat.le_refl _, Nat.le_refl _⟩ (ci := 3) (q0 := 1) rfl rfl hP hD hS [1, 2] rfl rfl hl rfl (Nat.le_of_ble_eq_true rfl) dX4_told_24) hP hD hS [1, 2] rfl rfl rfl (fun H locs hP hD hS => ?_)
      exact hend _ _ _ _ _ (by rw [← hr, r_X4_told, if_neg c1, if_neg c7]) hP hS dX4_told_27
