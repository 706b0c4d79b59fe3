theorem fu_ex (k : Nat) : ∃ n : Nat, n = k := ⟨k, rfl⟩
noncomputable def fu (k : Nat) : Nat := Classical.choose (fu_ex k)
theorem fu_eq (k : Nat) : fu k = k := Classical.choose_spec (fu_ex k)
theorem tI_le (a b : Int32) : a ≤ b ↔ a.toInt ≤ b.toInt := Int32.le_iff_toInt_le
theorem tI_lt (a b : Int32) : a < b ↔ a.toInt < b.toInt := Int32.lt_iff_toInt_lt
theorem tI_eq (a b : Int32) : a = b ↔ a.toInt = b.toInt := ⟨fun h => by rw [h], fun h => Int32.toInt_inj.mp h⟩
theorem rng (x : Int32) : -2147483648 ≤ x.toInt ∧ x.toInt < 2147483648 := ⟨by have := Int32.le_toInt x; simpa using this, by have := Int32.toInt_lt x; simpa using this⟩
theorem addI {x y : Int32} (h1 : -2147483648 ≤ x.toInt + y.toInt) (h2 : x.toInt + y.toInt < 2147483648) : (x + y).toInt = x.toInt + y.toInt := by
  rw [Int32.toInt_add, Int.bmod_eq_of_le (by omega) (by omega)]
theorem subI {x y : Int32} (h1 : -2147483648 ≤ x.toInt - y.toInt) (h2 : x.toInt - y.toInt < 2147483648) : (x - y).toInt = x.toInt - y.toInt := by
  rw [Int32.toInt_sub, Int.bmod_eq_of_le (by omega) (by omega)]
theorem mulI {x y : Int32} (h1 : -2147483648 ≤ x.toInt * y.toInt) (h2 : x.toInt * y.toInt < 2147483648) : (x * y).toInt = x.toInt * y.toInt := by
  rw [Int32.toInt_mul, Int.bmod_eq_of_le (by omega) (by omega)]
theorem wit {v a b : Int32} : (¬ r_X4_within v a b = 0) ↔ (a.toInt ≤ v.toInt ∧ v.toInt ≤ b.toInt) := by
  unfold r_X4_within
  by_cases h1 : v < a
  · rw [if_pos h1]
    have := (tI_lt v a).mp h1
    constructor
    · intro h; exact absurd rfl h
    · intro h; omega
  · rw [if_neg h1]
    have h1' : ¬ v.toInt < a.toInt := fun h => h1 ((tI_lt v a).mpr h)
    by_cases h2 : b < v
    · rw [if_pos h2]
      have := (tI_lt b v).mp h2
      constructor
      · intro h; exact absurd rfl h
      · intro h; omega
    · rw [if_neg h2]
      have h2' : ¬ b.toInt < v.toInt := fun h => h2 ((tI_lt b v).mpr h)
      constructor
      · intro _; omega
      · intro _ h; exact absurd h (by decide)
theorem in_has {k : Int32} (h : ¬ r_X3_has k = 0) : vp_in k 11 := by
  have h := wit.mp h
  have e0 : (0 : Int32).toInt = 0 := rfl
  have e1 : (10 : Int32).toInt = 10 := rfl
  exact vp_in_iff.mpr (by omega)
def r_X3_valueOf (R : Nat → Int32) (k : Int32) : Int32 := (if (r_X3_has k) = 0 then 0 else (R (Int32.toNatClampNeg k)))
theorem ck_X3_valueOf : CK yX3_valueOf cX3_valueOf 2 (some .int) 1 := ⟨wd_1_185, wd_1_2, by decide, by decide, by decide +kernel⟩
set_option maxHeartbeats 4000000 in
set_option maxRecDepth 100000 in
theorem c_X3_valueOf (l : Launch) (D : va_G) (cI : ClassId) (ar : Nat) (av : Nat) (R : Nat → Int32) (k : Int32) : MI l D cI yX3_valueOf cX3_valueOf 2 (some .int) 2 42 [.ref ar, .int k] [rc ar av, ac cI av 11 R] (r_X3_valueOf R k) [rc ar av, ac cI av 11 R] := by
  generalize hr : (r_X3_valueOf R k) = r
  refine MI.mk (own := RX3) rfl (by decide) rfl (Nat.le_of_ble_eq_true rfl) ?_
  intro p e s m args below meth c A Q C hD hend H locs ls hP hS hl
  have hx := C.1.1
  have hb := C.1.2.1
  have hl : lv_has ls 2 [(0, .ref ar), (1, .int k)] := hl
  refine lv_iload_n hx hb dX3_valueOf_0 rfl (lv_at hl 1 rfl) ?_
  refine go_i (ws' := [rc ar av, ac cI av 11 R]) C (rn_S (As := [.int k]) (rest := []) C (c_X3_has l D cI k H.size) ck_X3_has wd_1_167 wd_1_173 ⟨Nat.le_of_ble_eq_true rfl, Nat.le_of_ble_eq_true rfl⟩ ⟨Nat.le_refl _, Nat.le_refl _⟩ hP hD hS [] rfl rfl hl rfl (Nat.le_of_ble_eq_true rfl) dX3_valueOf_1) hP hD hS [] rfl rfl rfl (fun H locs hP hD hS => ?_)
  refine lv_if_eq (tgt := 16) hx hb dX3_valueOf_4 (by decide) (fun c1 => ?_) (fun c1 => ?_)
  · refine lv_iconst (v := 0) hx hb dX3_valueOf_16 (by decide) ?_
    exact hend _ _ _ _ _ (by rw [← hr, r_X3_valueOf, if_pos c1]) hP hS dX3_valueOf_17
  · refine lv_aload_n hx hb dX3_valueOf_7 rfl (lv_at hl 0 rfl) ?_
    refine kget (v := .ref av) C hP igX3 rfl 0 (by decide) wd_1_28 0 rfl rfl dX3_valueOf_8 ?_
    refine lv_iload_n hx hb dX3_valueOf_11 rfl (lv_at hl 1 rfl) ?_
    refine kald C hP 1 rfl (in_has c1) (k := (Int32.toNatClampNeg k)) rfl dX3_valueOf_12 ?_
    refine lv_goto (tgt := 17) hx hb dX3_valueOf_13 (by decide) ?_
    exact hend _ _ _ _ _ (by rw [← hr, r_X3_valueOf, if_neg c1]) hP hS dX3_valueOf_17
def r_X3_bars (R : Nat → Int32) (dd : Int32) : Int32 := ((R 4) + ((R 5) * dd))
theorem ck_X3_bars : CK yX3_bars cX3_bars 2 (some .int) 1 := ⟨wd_1_201, wd_1_2, by decide, by decide, by decide +kernel⟩
set_option maxHeartbeats 4000000 in
set_option maxRecDepth 100000 in
theorem c_X3_bars (l : Launch) (D : va_G) (cI : ClassId) (ar : Nat) (av : Nat) (R : Nat → Int32) (dd : Int32) : MI l D cI yX3_bars cX3_bars 2 (some .int) 0 0 [.ref ar, .int dd] [rc ar av, ac cI av 11 R] (r_X3_bars R dd) [rc ar av, ac cI av 11 R] := by
  generalize hr : (r_X3_bars R dd) = r
  refine MI.mk (own := RX3) rfl (by decide) rfl (Nat.le_of_ble_eq_true rfl) ?_
  intro p e s m args below meth c A Q C hD hend H locs ls hP hS hl
  have hx := C.1.1
  have hb := C.1.2.1
  have hl : lv_has ls 2 [(0, .ref ar), (1, .int dd)] := hl
  refine lv_aload_n hx hb dX3_bars_0 rfl (lv_at hl 0 rfl) ?_
  refine kget (v := .ref av) C hP igX3 rfl 0 (by decide) wd_1_28 0 rfl rfl dX3_bars_1 ?_
  refine lv_iconst (v := 4) hx hb dX3_bars_4 (by decide) ?_
  refine kald C hP 1 rfl (vp_in_iff.mpr (by decide)) (k := 4) rfl dX3_bars_5 ?_
  refine lv_aload_n hx hb dX3_bars_6 rfl (lv_at hl 0 rfl) ?_
  refine kget (v := .ref av) C hP igX3 rfl 0 (by decide) wd_1_28 0 rfl rfl dX3_bars_7 ?_
  refine lv_iconst (v := 5) hx hb dX3_bars_10 (by decide) ?_
  refine kald C hP 1 rfl (vp_in_iff.mpr (by decide)) (k := 5) rfl dX3_bars_11 ?_
  refine lv_iload_n hx hb dX3_bars_12 rfl (lv_at hl 1 rfl) ?_
  refine lv_imul hx hb dX3_bars_13 ?_
  refine lv_iadd hx hb dX3_bars_14 ?_
  exact hend _ _ _ _ _ (by rw [← hr, r_X3_bars]) hP hS dX3_bars_15
def r_X3_allows (k : Int32) (v : Int32) : Int32 := (if (r_X3_has k) = 0 then 0 else (if (r_X4_within v (fLEAST (Int32.toNatClampNeg k)) (fMOST (Int32.toNatClampNeg k))) = 0 then 0 else 1))
theorem ck_X3_allows : CK yX3_allows cX3_allows 2 (some .boolean) 2 := ⟨wd_1_172, wd_1_2, by decide, by decide, by decide +kernel⟩
theorem b_X3_allows (k : Int32) (v : Int32) : (r_X3_allows k v) = 0 ∨ (r_X3_allows k v) = 1 := by
  unfold r_X3_allows
  repeat' split
  all_goals first | exact Or.inl rfl | exact Or.inr rfl | exact b_X4_within _ _ _
set_option maxHeartbeats 4000000 in
set_option maxRecDepth 100000 in
theorem c_X3_allows (l : Launch) (D : va_G) (cI : ClassId) (k : Int32) (v : Int32) : MI l D cI yX3_allows cX3_allows 2 (some .boolean) 2 42 [.int k, .int v] [] (r_X3_allows k v) [] := by
  have hn : narrow .boolean (.int (r_X3_allows k v)) = .int (r_X3_allows k v) := nb (b_X3_allows k v)
  generalize hr : (r_X3_allows k v) = r at hn ⊢
  refine MI.mk (own := RX3) rfl (by decide) hn (Nat.le_of_ble_eq_true rfl) ?_
  intro p e s m args below meth c A Q C hD hend H locs ls hP hS hl
  have hx := C.1.1
  have hb := C.1.2.1
  have hl : lv_has ls 2 [(0, .int k), (1, .int v)] := hl
  refine lv_iload_n hx hb dX3_allows_0 rfl (lv_at hl 0 rfl) ?_
  refine go_i (ws' := []) C (rn_S (As := [.int k]) (rest := []) C (c_X3_has l D cI k H.size) ck_X3_has wd_1_167 wd_1_173 ⟨Nat.le_of_ble_eq_true rfl, Nat.le_of_ble_eq_true rfl⟩ ⟨Nat.le_refl _, Nat.le_refl _⟩ hP hD hS [] rfl rfl hl rfl (Nat.le_of_ble_eq_true rfl) dX3_allows_1) hP hD hS [] rfl rfl rfl (fun H locs hP hD hS => ?_)
  refine lv_if_eq (tgt := 28) hx hb dX3_allows_4 (by decide) (fun c1 => ?_) (fun c1 => ?_)
  · refine lv_iconst (v := 0) hx hb dX3_allows_28 (by decide) ?_
    exact hend _ _ _ _ _ (by rw [← hr, r_X3_allows, if_pos c1]) hP hS dX3_allows_29
  · refine lv_iload_n hx hb dX3_allows_7 rfl (lv_at hl 1 rfl) ?_
    obtain ⟨zL, hZ_zL, hT_zL⟩ := C.2.2.2.1.1
    refine va_gets hx hb hZ_zL hS C.1.2.2.2.1 (C.1.2.2.2.2 _ wd_1_174) (fun _ h => h) dX3_allows_8 ?_
    refine lv_iload_n hx hb dX3_allows_11 rfl (lv_at hl 0 rfl) ?_
    refine va_ti (v := .int (fLEAST (Int32.toNatClampNeg k))) hx hb hT_zL hS (in_has c1) rfl dX3_allows_12 ?_
    obtain ⟨zM, hZ_zM, hT_zM⟩ := C.2.2.2.1.2.1
    refine va_gets hx hb hZ_zM hS C.1.2.2.2.1 (C.1.2.2.2.2 _ wd_1_176) (fun _ h => h) dX3_allows_13 ?_
    refine lv_iload_n hx hb dX3_allows_16 rfl (lv_at hl 0 rfl) ?_
    refine va_ti (v := .int (fMOST (Int32.toNatClampNeg k))) hx hb hT_zM hS (in_has c1) rfl dX3_allows_17 ?_
    refine go_i (ws' := []) C (rn_N (As := [.int v, .int (fLEAST (Int32.toNatClampNeg k)), .int (fMOST (Int32.toNatClampNeg k))]) (rest := []) C (c_X4_within l D cI v (fLEAST (Int32.toNatClampNeg k)) (fMOST (Int32.toNatClampNeg k)) H.size) ck_X4_within wd_1_156 C.2.2.1.2.2.2.2.2 ⟨Nat.le_of_ble_eq_true rfl, Nat.le_of_ble_eq_true rfl⟩ ⟨Nat.le_refl _, Nat.le_refl _⟩ hP hD hS [] rfl rfl hl rfl (Nat.le_of_ble_eq_true rfl) dX3_allows_18) hP hD hS [] rfl rfl rfl (fun H locs hP hD hS => ?_)
    refine lv_if_eq (tgt := 28) hx hb dX3_allows_21 (by decide) (fun c2 => ?_) (fun c2 => ?_)
    · refine lv_iconst (v := 0) hx hb dX3_allows_28 (by decide) ?_
      exact hend _ _ _ _ _ (by rw [← hr, r_X3_allows, if_neg c1, if_pos c2]) hP hS dX3_allows_29
    · refine lv_iconst (v := 1) hx hb dX3_allows_24 (by decide) ?_
      refine lv_goto (tgt := 29) hx hb dX3_allows_25 (by decide) ?_
      exact hend _ _ _ _ _ (by rw [← hr, r_X3_allows, if_neg c1, if_neg c2]) hP hS dX3_allows_29
theorem in_allows {k v : Int32} (h : ¬ r_X3_allows k v = 0) : vp_in k 11 := by
  by_cases hh : r_X3_has k = 0
  · exact absurd (by rw [r_X3_allows, if_pos hh]) h
  · exact in_has hh
def r_X3_change (R : Nat → Int32) (k : Int32) (v : Int32) : Int32 := (if (r_X3_allows k v) = 0 then (r_X3_valueOf R k) else (r_X3_valueOf R k))
def q_X3_change_R (R : Nat → Int32) (k : Int32) (v : Int32) : Nat → Int32 := (if (r_X3_allows k v) = 0 then R else (upd R (Int32.toNatClampNeg k) v))
theorem ck_X3_change : CK yX3_change cX3_change 4 (some .int) 2 := ⟨wd_1_181, wd_1_2, by decide, by decide, by decide +kernel⟩
set_option maxHeartbeats 4000000 in
set_option maxRecDepth 100000 in
theorem c_X3_change (l : Launch) (D : va_G) (cI : ClassId) (ar : Nat) (av : Nat) (R : Nat → Int32) (k : Int32) (v : Int32) : MI l D cI yX3_change cX3_change 4 (some .int) 3 63 [.ref ar, .int k, .int v] [rc ar av, ac cI av 11 R] (r_X3_change R k v) [rc ar av, ac cI av 11 (q_X3_change_R R k v)] := by
  generalize hr : (r_X3_change R k v) = r
  generalize ho_R : (q_X3_change_R R k v) = o_R
  refine MI.mk (own := RX3) rfl (by decide) rfl (Nat.le_of_ble_eq_true rfl) ?_
  intro p e s m args below meth c A Q C hD hend H locs ls hP hS hl
  have hx := C.1.1
  have hb := C.1.2.1
  have hl : lv_has ls 4 [(0, .ref ar), (1, .int k), (2, .int v)] := hl
  refine lv_aload_n hx hb dX3_change_0 rfl (lv_at hl 0 rfl) ?_
  refine lv_iload_n hx hb dX3_change_1 rfl (lv_at hl 1 rfl) ?_
  refine go_i (ws' := [rc ar av, ac cI av 11 R]) C (rn_V (As := [.int k]) (rest := []) C (c_X3_valueOf l D cI ar av R k H.size) ck_X3_valueOf wd_1_183 wd_1_184 wd_1_182 ⟨Nat.le_of_ble_eq_true rfl, Nat.le_of_ble_eq_true rfl⟩ ⟨Nat.le_refl _, Nat.le_refl _⟩ (ci := 3) (q0 := 0) rfl rfl hP hD hS [0, 1] rfl rfl hl rfl (Nat.le_of_ble_eq_true rfl) dX3_change_2) hP hD hS [0, 1] rfl rfl rfl (fun H locs hP hD hS => ?_)
  refine lv_istore_n (lv' := [(3, .int (r_X3_valueOf R k)), (0, .ref ar), (1, .int k), (2, .int v)]) hx hb dX3_change_5 rfl hl (by decide) rfl (fun ls hl => ?_)
  refine lv_iload_n hx hb dX3_change_6 rfl (lv_at hl 2 rfl) ?_
  refine lv_iload_n hx hb dX3_change_7 rfl (lv_at hl 3 rfl) ?_
  refine go_i (ws' := [rc ar av, ac cI av 11 R]) C (rn_S (As := [.int k, .int v]) (rest := []) C (c_X3_allows l D cI k v H.size) ck_X3_allows wd_1_171 wd_1_186 ⟨Nat.le_of_ble_eq_true rfl, Nat.le_of_ble_eq_true rfl⟩ ⟨Nat.le_refl _, Nat.le_refl _⟩ hP hD hS [] rfl rfl hl rfl (Nat.le_of_ble_eq_true rfl) dX3_change_8) hP hD hS [] rfl rfl rfl (fun H locs hP hD hS => ?_)
  refine lv_if_eq (tgt := 21) hx hb dX3_change_11 (by decide) (fun c1 => ?_) (fun c1 => ?_)
  · refine lv_iload_n hx hb dX3_change_21 rfl (lv_at hl 0 rfl) ?_
    exact hend _ _ _ _ _ (by rw [← hr, r_X3_change, if_pos c1]) (by rw [← ho_R, q_X3_change_R, if_pos c1]; exact hP) hS dX3_change_22
  · refine lv_aload_n hx hb dX3_change_14 rfl (lv_at hl 1 rfl) ?_
    refine kget (v := .ref av) C hP igX3 rfl 0 (by decide) wd_1_28 0 rfl rfl dX3_change_15 ?_
    refine lv_iload_n hx hb dX3_change_18 rfl (lv_at hl 2 rfl) ?_
    refine lv_iload_n hx hb dX3_change_19 rfl (lv_at hl 3 rfl) ?_
    refine kast (ws' := [rc ar av, ac cI av 11 (upd R (Int32.toNatClampNeg k) v)]) C hP hD hS 1 rfl (in_allows c1) (k := (Int32.toNatClampNeg k)) rfl rfl dX3_change_20 (fun H locs hP hD hS => ?_)
    refine lv_iload_n hx hb dX3_change_21 rfl (lv_at hl 0 rfl) ?_
    exact hend _ _ _ _ _ (by rw [← hr, r_X3_change, if_neg c1]) (by rw [← ho_R, q_X3_change_R, if_neg c1]; exact hP) hS dX3_change_22
theorem half_lt {st : Int32} {n : Nat} (h : ¬ st ≤ 0) (hm : st.toNatClampNeg < n + 1) : (st / 2).toNatClampNeg < n := by
  have h0 : ¬ st.toInt ≤ 0 := fun z => h ((tI_le st 0).mpr z)
  obtain ⟨j, hj, rfl⟩ := nI_of (x := st) (fun z => h0 (by have := (tI_lt st 0).mp z; have e : (0 : Int32).toInt = 0 := rfl; omega))
  rw [show (2 : Int32) = nI 2 from rfl, pk_div hj (by decide) (by decide), nI_clamp (by omega)]
  rw [nI_clamp hj] at hm
  rw [nI_toInt hj] at h0
  omega
def mg_X0_fill_17 (vn : Int32) (ic : Int32) : Int32 := (if vn ≤ 0 then 0 else ic)
def q_X0_fill_G (vn : Int32) (fn : Int32) (ht : Int32) (ic : Int32) : Nat → Int32 := (g8 vn fn (mg_X0_fill_17 vn ic) 0 (-6) ht (-6) (-6))
theorem ck_X0_fill : CK yX0_fill cX0_fill 5 none 4 := ⟨wd_1_232, wd_1_5, by decide, by decide, by decide +kernel⟩
set_option maxHeartbeats 4000000 in
set_option maxRecDepth 100000 in
theorem c_X0_fill (l : Launch) (D : va_G) (cI : ClassId) (ag : Nat) (G : Nat → Int32) (vn : Int32) (fn : Int32) (ht : Int32) (ic : Int32) : MV l D cI yX0_fill cX0_fill 5 0 0 [.ref ag, .int vn, .int fn, .int ht, .int ic] [gc ag G] [gc ag (q_X0_fill_G vn fn ht ic)] := by
  generalize ho_G : (q_X0_fill_G vn fn ht ic) = o_G
  refine MV.mk (own := RX0) rfl (by decide) (Nat.le_of_ble_eq_true rfl) ?_
  intro p e s m args below meth c A Q C hD hend H locs ls hP hS hl
  have hx := C.1.1
  have hb := C.1.2.1
  have hl : lv_has ls 5 [(0, .ref ag), (1, .int vn), (2, .int fn), (3, .int ht), (4, .int ic)] := hl
  refine lv_aload_n hx hb dX0_fill_0 rfl (lv_at hl 0 rfl) ?_
  refine lv_iload_n hx hb dX0_fill_1 rfl (lv_at hl 1 rfl) ?_
  refine kput (ty := .int) (ws' := [gc ag (g8 vn (G 1) (G 2) (G 3) (G 4) (G 5) (G 6) (G 7))]) C hP hD hS igX0 tyX0_ok nmX0 rfl 0 (by decide) wd_1_45 rfl rfl rfl rfl 0 rfl (Nat.le_of_ble_eq_true rfl) rfl dX0_fill_2 (fun H locs hP hD hS => ?_)
  refine lv_aload_n hx hb dX0_fill_5 rfl (lv_at hl 0 rfl) ?_
  refine lv_iload_n hx hb dX0_fill_6 rfl (lv_at hl 2 rfl) ?_
  refine kput (ty := .int) (ws' := [gc ag (g8 vn fn (G 2) (G 3) (G 4) (G 5) (G 6) (G 7))]) C hP hD hS igX0 tyX0_ok nmX0 rfl 1 (by decide) wd_1_47 rfl rfl rfl rfl 0 rfl (Nat.le_of_ble_eq_true rfl) rfl dX0_fill_7 (fun H locs hP hD hS => ?_)
  refine lv_aload_n hx hb dX0_fill_10 rfl (lv_at hl 0 rfl) ?_
  refine lv_iload_n hx hb dX0_fill_11 rfl (lv_at hl 3 rfl) ?_
  refine kput (ty := .int) (ws' := [gc ag (g8 vn fn (G 2) (G 3) (G 4) ht (G 6) (G 7))]) C hP hD hS igX0 tyX0_ok nmX0 rfl 5 (by decide) wd_1_56 rfl rfl rfl rfl 0 rfl (Nat.le_of_ble_eq_true rfl) rfl dX0_fill_12 (fun H locs hP hD hS => ?_)
  refine lv_aload_n hx hb dX0_fill_15 rfl (lv_at hl 0 rfl) ?_
  refine lv_iload_n hx hb dX0_fill_16 rfl (lv_at hl 1 rfl) ?_
  have j26 : ∀ (ls : Array Slot) (H : Heap) (locs : List Loc), lv_has ls 5 [(0, .ref ag), (1, .int vn), (2, .int fn), (3, .int ht), (4, .int ic)] → va_P D vwCl [gc ag (g8 vn fn (G 2) (G 3) (G 4) ht (G 6) (G 7))] H → va_D A [gc ag (g8 vn fn (G 2) (G 3) (G 4) ht (G 6) (G 7))] → va_S A s.heap H locs → W p l e (RM 0 0) s m args below meth c H locs 0 0 Q (F0 m 26 ls [.int (mg_X0_fill_17 vn ic), .ref ag]) := by
    intro ls H locs hl hP hD hS
    refine kput (ty := .int) (ws' := [gc ag (g8 vn fn (mg_X0_fill_17 vn ic) (G 3) (G 4) ht (G 6) (G 7))]) C hP hD hS igX0 tyX0_ok nmX0 rfl 2 (by decide) wd_1_49 rfl rfl rfl rfl 0 rfl (Nat.le_of_ble_eq_true rfl) rfl dX0_fill_26 (fun H locs hP hD hS => ?_)
    refine lv_aload_n hx hb dX0_fill_29 rfl (lv_at hl 0 rfl) ?_
    refine lv_iconst (v := 0) hx hb dX0_fill_30 (by decide) ?_
    refine kput (ty := .int) (ws' := [gc ag (g8 vn fn (mg_X0_fill_17 vn ic) 0 (G 4) ht (G 6) (G 7))]) C hP hD hS igX0 tyX0_ok nmX0 rfl 3 (by decide) wd_1_51 rfl rfl rfl rfl 0 rfl (Nat.le_of_ble_eq_true rfl) rfl dX0_fill_31 (fun H locs hP hD hS => ?_)
    refine lv_aload_n hx hb dX0_fill_34 rfl (lv_at hl 0 rfl) ?_
    refine lv_bipush (v := (-6)) hx hb dX0_fill_35 (by decide) ?_
    refine kput (ty := .int) (ws' := [gc ag (g8 vn fn (mg_X0_fill_17 vn ic) 0 (G 4) ht (-6) (G 7))]) C hP hD hS igX0 tyX0_ok nmX0 rfl 6 (by decide) wd_1_57 rfl rfl rfl rfl 0 rfl (Nat.le_of_ble_eq_true rfl) rfl dX0_fill_37 (fun H locs hP hD hS => ?_)
    refine lv_aload_n hx hb dX0_fill_40 rfl (lv_at hl 0 rfl) ?_
    refine lv_bipush (v := (-6)) hx hb dX0_fill_41 (by decide) ?_
    refine kput (ty := .int) (ws' := [gc ag (g8 vn fn (mg_X0_fill_17 vn ic) 0 (-6) ht (-6) (G 7))]) C hP hD hS igX0 tyX0_ok nmX0 rfl 4 (by decide) wd_1_53 rfl rfl rfl rfl 0 rfl (Nat.le_of_ble_eq_true rfl) rfl dX0_fill_43 (fun H locs hP hD hS => ?_)
    refine lv_aload_n hx hb dX0_fill_46 rfl (lv_at hl 0 rfl) ?_
    refine lv_bipush (v := (-6)) hx hb dX0_fill_47 (by decide) ?_
    refine kput (ty := .int) (ws' := [gc ag (g8 vn fn (mg_X0_fill_17 vn ic) 0 (-6) ht (-6) (-6))]) C hP hD hS igX0 tyX0_ok nmX0 rfl 7 (by decide) wd_1_58 rfl rfl rfl rfl 0 rfl (Nat.le_of_ble_eq_true rfl) rfl dX0_fill_49 (fun H locs hP hD hS => ?_)
    exact hend _ _ _ _ (by rw [← ho_G, q_X0_fill_G]; exact hP) hS dX0_fill_52
  refine lv_if_le (tgt := 25) hx hb dX0_fill_17 (by decide) (fun c1 => ?_) (fun c1 => ?_)
  · refine lv_iconst (v := 0) hx hb dX0_fill_25 (by decide) ?_
    have e_mg_X0_fill_17 : (mg_X0_fill_17 vn ic) = 0 := by rw [mg_X0_fill_17, if_pos c1]
    have jj := j26
    rw [e_mg_X0_fill_17] at jj
    exact jj ls H locs (lv_sub hl [0, 1, 2, 3, 4] rfl) hP hD hS
  · refine lv_iload hx hb dX0_fill_20 (lv_at hl 4 rfl) ?_
    refine lv_goto (tgt := 26) hx hb dX0_fill_22 (by decide) ?_
    have e_mg_X0_fill_17 : (mg_X0_fill_17 vn ic) = ic := by rw [mg_X0_fill_17, if_neg c1]
    have jj := j26
    rw [e_mg_X0_fill_17] at jj
    exact jj ls H locs (lv_sub hl [0, 1, 2, 3, 4] rfl) hP hD hS
def mg_X0_balance_24 (G : Nat → Int32) (sh : Int32) (bs : Int32) (p0 : Int32) (co : Int32) (t : Int32) (st : Int32) : Int32 := (if 0 < (t + st) then t else (if (((G 5) * (sh - (t + st))) / 10) < ((r_X4_steamAt (t + st) bs p0) * co) then t else (t + st)))
def lr_X0_balance_10 (G : Nat → Int32) (sh : Int32) (bs : Int32) (p0 : Int32) (co : Int32) : Nat → (Int32) → (Int32) → (Int32)
  | 0, _, _ => 0
  | n + 1, t, st => (if st ≤ 0 then t else (lr_X0_balance_10 G sh bs p0 co n (mg_X0_balance_24 G sh bs p0 co t st) (st / 2)))
noncomputable def r_X0_balance (G : Nat → Int32) (sh : Int32) (bs : Int32) (p0 : Int32) (co : Int32) : Int32 := (lr_X0_balance_10 G sh bs p0 co (fu 513) (-600) 512)
theorem ck_X0_balance : CK yX0_balance cX0_balance 8 (some .int) 4 := ⟨wd_2_36, wd_1_5, by decide, by decide, by decide +kernel⟩
set_option maxHeartbeats 4000000 in
set_option maxRecDepth 100000 in
theorem c_X0_balance (l : Launch) (D : va_G) (cI : ClassId) (ag : Nat) (G : Nat → Int32) (sh : Int32) (bs : Int32) (p0 : Int32) (co : Int32) : MI l D cI yX0_balance cX0_balance 8 (some .int) 2 49 [.ref ag, .int sh, .int bs, .int p0, .int co] [gc ag G] (r_X0_balance G sh bs p0 co) [gc ag G] := by
  generalize hr : (r_X0_balance G sh bs p0 co) = r
  refine MI.mk (own := RX0) rfl (by decide) rfl (Nat.le_of_ble_eq_true rfl) ?_
  intro p e s m args below meth c A Q C hD hend H locs ls hP hS hl
  have hx := C.1.1
  have hb := C.1.2.1
  have hl : lv_has ls 8 [(0, .ref ag), (1, .int sh), (2, .int bs), (3, .int p0), (4, .int co)] := hl
  refine lv_sipush (v := (-600)) hx hb dX0_balance_0 (by decide) ?_
  refine lv_istore (lv' := [(5, .int (-600)), (0, .ref ag), (1, .int sh), (2, .int bs), (3, .int p0), (4, .int co)]) hx hb dX0_balance_3 hl (by decide) rfl (fun ls hl => ?_)
  refine lv_sipush (v := 512) hx hb dX0_balance_5 (by decide) ?_
  refine lv_istore (lv' := [(6, .int 512), (5, .int (-600)), (0, .ref ag), (1, .int sh), (2, .int bs), (3, .int p0), (4, .int co)]) hx hb dX0_balance_8 hl (by decide) rfl (fun ls hl => ?_)
  have lp10 : ∀ (n : Nat) (t : Int32) (st : Int32), Int32.toNatClampNeg st < n → lr_X0_balance_10 G sh bs p0 co n t st = r → ∀ (ls : Array Slot) (H : Heap) (locs : List Loc), lv_has ls 8 [(0, .ref ag), (1, .int sh), (2, .int bs), (3, .int p0), (4, .int co), (5, .int t), (6, .int st)] → va_P D vwCl [gc ag G] H → va_D A [gc ag G] → va_S A s.heap H locs → W p l e (RM 2 49) s m args below meth c H locs 0 0 Q (F0 m 10 ls []) := by
    clear hl hP hD hS
    intro n
    induction n with
    | zero =>
      intro t st  hm
      exact absurd hm (Nat.not_lt_zero _)
    | succ n ih =>
      intro t st  hm hr ls H locs hl hP hD hS
      refine lv_iload hx hb dX0_balance_10 (lv_at hl 6 rfl) ?_
      refine lv_if_le (tgt := 65) hx hb dX0_balance_12 (by decide) (fun c1 => ?_) (fun c1 => ?_)
      · refine lv_iload hx hb dX0_balance_65 (lv_at hl 5 rfl) ?_
        exact hend _ _ _ _ _ (by rw [← hr, lr_X0_balance_10, if_pos c1]) hP hS dX0_balance_67
      · refine lv_iload hx hb dX0_balance_15 (lv_at hl 5 rfl) ?_
        refine lv_iload hx hb dX0_balance_17 (lv_at hl 6 rfl) ?_
        refine lv_iadd hx hb dX0_balance_19 ?_
        refine lv_istore (lv' := [(7, .int (t + st)), (0, .ref ag), (1, .int sh), (2, .int bs), (3, .int p0), (4, .int co), (5, .int t), (6, .int st)]) hx hb dX0_balance_20 hl (by decide) rfl (fun ls hl => ?_)
        refine lv_iload hx hb dX0_balance_22 (lv_at hl 0 rfl) ?_
        have j56 : ∀ (ls : Array Slot) (H : Heap) (locs : List Loc), lv_has ls 8 [(0, .ref ag), (1, .int sh), (2, .int bs), (3, .int p0), (4, .int co), (5, .int (mg_X0_balance_24 G sh bs p0 co t st)), (6, .int st), (7, .int (t + st))] → va_P D vwCl [gc ag G] H → va_D A [gc ag G] → va_S A s.heap H locs → W p l e (RM 2 49) s m args below meth c H locs 0 0 Q (F0 m 56 ls []) := by
          intro ls H locs hl hP hD hS
          refine lv_iload hx hb dX0_balance_56 (lv_at hl 6 rfl) ?_
          refine lv_iconst (v := 2) hx hb dX0_balance_58 (by decide) ?_
          refine lv_idiv hx hb dX0_balance_59 (by decide) ?_
          refine lv_istore (lv' := [(6, .int (st / 2)), (0, .ref ag), (1, .int sh), (2, .int bs), (3, .int p0), (4, .int co), (5, .int (mg_X0_balance_24 G sh bs p0 co t st)), (7, .int (t + st))]) hx hb dX0_balance_60 hl (by decide) rfl (fun ls hl => ?_)
          refine lv_goto (tgt := 10) hx hb dX0_balance_62 (by decide) ?_
          exact ih (mg_X0_balance_24 G sh bs p0 co t st) (st / 2)  (half_lt c1 hm) (by rw [← hr, lr_X0_balance_10, if_neg c1]) ls H locs (lv_sub hl [1, 2, 3, 4, 5, 6, 0] rfl) hP hD hS
        refine lv_if_gt (tgt := 56) hx hb dX0_balance_24 (by decide) (fun c2 => ?_) (fun c2 => ?_)
        · have e_mg_X0_balance_24 : (mg_X0_balance_24 G sh bs p0 co t st) = t := by rw [mg_X0_balance_24, if_pos c2]
          have jj := j56
          rw [e_mg_X0_balance_24] at jj
          exact jj ls H locs (lv_sub hl [1, 2, 3, 4, 5, 6, 7, 0] rfl) hP hD hS
        · refine lv_iload hx hb dX0_balance_27 (lv_at hl 0 rfl) ?_
          refine lv_iload_n hx hb dX0_balance_29 rfl (lv_at hl 3 rfl) ?_
          refine lv_iload_n hx hb dX0_balance_30 rfl (lv_at hl 4 rfl) ?_
          refine go_i (ws' := [gc ag G]) C (rn_N (As := [.int (t + st), .int bs, .int p0]) (rest := []) C (c_X4_steamAt l D cI (t + st) bs p0 H.size) ck_X4_steamAt wd_1_203 C.2.2.1.2.1 ⟨Nat.le_of_ble_eq_true rfl, Nat.le_of_ble_eq_true rfl⟩ ⟨Nat.le_refl _, Nat.le_refl _⟩ hP hD hS [] rfl rfl hl rfl (Nat.le_of_ble_eq_true rfl) dX0_balance_31) hP hD hS [] rfl rfl rfl (fun H locs hP hD hS => ?_)
          refine lv_iload hx hb dX0_balance_34 (lv_at hl 5 rfl) ?_
          refine lv_imul hx hb dX0_balance_36 ?_
          refine lv_aload_n hx hb dX0_balance_37 rfl (lv_at hl 1 rfl) ?_
          refine kget (v := .int (G 5)) C hP igX0 rfl 5 (by decide) wd_1_56 0 rfl rfl dX0_balance_38 ?_
          refine lv_iload_n hx hb dX0_balance_41 rfl (lv_at hl 2 rfl) ?_
          refine lv_iload hx hb dX0_balance_42 (lv_at hl 0 rfl) ?_
          refine lv_isub hx hb dX0_balance_44 ?_
          refine lv_imul hx hb dX0_balance_45 ?_
          refine lv_bipush (v := 10) hx hb dX0_balance_46 (by decide) ?_
          refine lv_idiv hx hb dX0_balance_48 (by decide) ?_
          refine lv_icmp_gt (tgt := 56) hx hb dX0_balance_49 (by decide) (fun c3 => ?_) (fun c3 => ?_)
          · have e_mg_X0_balance_24 : (mg_X0_balance_24 G sh bs p0 co t st) = t := by rw [mg_X0_balance_24, if_neg c2, if_pos c3]
            have jj := j56
            rw [e_mg_X0_balance_24] at jj
            exact jj ls H locs (lv_sub hl [1, 2, 3, 4, 5, 6, 7, 0] rfl) hP hD hS
          · refine lv_iload hx hb dX0_balance_52 (lv_at hl 0 rfl) ?_
            refine lv_istore (lv' := [(5, .int (t + st)), (7, .int (t + st)), (0, .ref ag), (1, .int sh), (2, .int bs), (3, .int p0), (4, .int co), (6, .int st)]) hx hb dX0_balance_54 hl (by decide) rfl (fun ls hl => ?_)
            have e_mg_X0_balance_24 : (mg_X0_balance_24 G sh bs p0 co t st) = (t + st) := by rw [mg_X0_balance_24, if_neg c2, if_neg c3]
            have jj := j56
            rw [e_mg_X0_balance_24] at jj
            exact jj ls H locs (lv_sub hl [2, 3, 4, 5, 6, 0, 7, 1] rfl) hP hD hS
  exact lp10 (fu 513) (-600) 512  (by rw [fu_eq]; decide) (by rw [← hr, r_X0_balance]) ls H locs (lv_sub hl [2, 3, 4, 5, 6, 1, 0] rfl) hP hD hS
def r_X0_tell (G : Nat → Int32) (k : Int32) : Int32 := (if k = 0 then (G 2) else (if k = 1 then (G 6) else (if k = 2 then (G 3) else (if k = 3 then (G 4) else (G 7)))))
theorem ck_X0_tell : CK yX0_tell cX0_tell 2 (some .int) 1 := ⟨wd_2_58, wd_1_5, by decide, by decide, by decide +kernel⟩
set_option maxHeartbeats 4000000 in
set_option maxRecDepth 100000 in
theorem c_X0_tell (l : Launch) (D : va_G) (cI : ClassId) (ag : Nat) (G : Nat → Int32) (k : Int32) : MI l D cI yX0_tell cX0_tell 2 (some .int) 0 0 [.ref ag, .int k] [gc ag G] (r_X0_tell G k) [gc ag G] := by
  generalize hr : (r_X0_tell G k) = r
  refine MI.mk (own := RX0) rfl (by decide) rfl (Nat.le_of_ble_eq_true rfl) ?_
  intro p e s m args below meth c A Q C hD hend H locs ls hP hS hl
  have hx := C.1.1
  have hb := C.1.2.1
  have hl : lv_has ls 2 [(0, .ref ag), (1, .int k)] := hl
  refine lv_iload_n hx hb dX0_tell_0 rfl (lv_at hl 1 rfl) ?_
  by_cases c1 : k = 0
  · refine lv_tableIn (off := 31) (tgt := 32) hx hb dX0_tell_1 (by rw [c1]; decide) (by rw [c1]; decide) (by rw [c1]; rfl) (by decide) ?_
    refine lv_aload_n hx hb dX0_tell_32 rfl (lv_at hl 0 rfl) ?_
    refine kget (v := .int (G 2)) C hP igX0 rfl 2 (by decide) wd_1_49 0 rfl rfl dX0_tell_33 ?_
    exact hend _ _ _ _ _ (by rw [← hr, r_X0_tell, if_pos c1]) hP hS dX0_tell_36
  · skip
    by_cases c2 : k = 1
    · refine lv_tableIn (off := 36) (tgt := 37) hx hb dX0_tell_1 (by rw [c2]; decide) (by rw [c2]; decide) (by rw [c2]; rfl) (by decide) ?_
      refine lv_aload_n hx hb dX0_tell_37 rfl (lv_at hl 0 rfl) ?_
      refine kget (v := .int (G 6)) C hP igX0 rfl 6 (by decide) wd_1_57 0 rfl rfl dX0_tell_38 ?_
      exact hend _ _ _ _ _ (by rw [← hr, r_X0_tell, if_neg c1, if_pos c2]) hP hS dX0_tell_41
    · skip
      by_cases c3 : k = 2
      · refine lv_tableIn (off := 41) (tgt := 42) hx hb dX0_tell_1 (by rw [c3]; decide) (by rw [c3]; decide) (by rw [c3]; rfl) (by decide) ?_
        refine lv_aload_n hx hb dX0_tell_42 rfl (lv_at hl 0 rfl) ?_
        refine kget (v := .int (G 3)) C hP igX0 rfl 3 (by decide) wd_1_51 0 rfl rfl dX0_tell_43 ?_
        exact hend _ _ _ _ _ (by rw [← hr, r_X0_tell, if_neg c1, if_neg c2, if_pos c3]) hP hS dX0_tell_46
      · skip
        by_cases c4 : k = 3
        · refine lv_tableIn (off := 46) (tgt := 47) hx hb dX0_tell_1 (by rw [c4]; decide) (by rw [c4]; decide) (by rw [c4]; rfl) (by decide) ?_
          refine lv_aload_n hx hb dX0_tell_47 rfl (lv_at hl 0 rfl) ?_
          refine kget (v := .int (G 4)) C hP igX0 rfl 4 (by decide) wd_1_53 0 rfl rfl dX0_tell_48 ?_
          exact hend _ _ _ _ _ (by rw [← hr, r_X0_tell, if_neg c1, if_neg c2, if_neg c3, if_pos c4]) hP hS dX0_tell_51
        · skip
          refine lv_tableOut (tgt := 52) hx hb dX0_tell_1 (ts_out (fun k h1 h2 => by rcases (by omega : k = 0 ∨ k = 1 ∨ k = 2 ∨ k = 3) with rfl | rfl | rfl | rfl <;> assumption)) (by decide) ?_
          refine lv_aload_n hx hb dX0_tell_52 rfl (lv_at hl 0 rfl) ?_
          refine kget (v := .int (G 7)) C hP igX0 rfl 7 (by decide) wd_1_58 0 rfl rfl dX0_tell_53 ?_
          exact hend _ _ _ _ _ (by rw [← hr, r_X0_tell, if_neg c1, if_neg c2, if_neg c3, if_neg c4]) hP hS dX0_tell_56
noncomputable def mg_X0_passMinute_101 (G : Nat → Int32) (R : Nat → Int32) (sh : Int32) (p0 : Int32) (mi : Int32) : Int32 := (if ((G 2) - (if (r_X4_steamAt (r_X0_balance G sh (r_X3_bars R (r_X4_quotient (100 * ((r_X3_valueOf R 0) - (G 2))) (r_X3_valueOf R 0))) p0 (r_X3_valueOf R 3)) (r_X3_bars R (r_X4_quotient (100 * ((r_X3_valueOf R 0) - (G 2))) (r_X3_valueOf R 0))) p0) < (G 2) then (r_X4_steamAt (r_X0_balance G sh (r_X3_bars R (r_X4_quotient (100 * ((r_X3_valueOf R 0) - (G 2))) (r_X3_valueOf R 0))) p0 (r_X3_valueOf R 3)) (r_X3_bars R (r_X4_quotient (100 * ((r_X3_valueOf R 0) - (G 2))) (r_X3_valueOf R 0))) p0) else (G 2))) = 0 then mi else (G 7))
noncomputable def q_X0_passMinute_G (G : Nat → Int32) (R : Nat → Int32) (sh : Int32) (p0 : Int32) (mi : Int32) : Nat → Int32 := (if (G 2) = 0 then (g8 (G 0) (G 1) (G 2) 0 (G 4) (G 5) sh (G 7)) else (if (G 4) = (-6) then (if (r_X0_balance G sh (r_X3_bars R (r_X4_quotient (100 * ((r_X3_valueOf R 0) - (G 2))) (r_X3_valueOf R 0))) p0 (r_X3_valueOf R 3)) ≤ (r_X3_valueOf R 6) then (g8 (G 0) (G 1) ((G 2) - (if (r_X4_steamAt (r_X0_balance G sh (r_X3_bars R (r_X4_quotient (100 * ((r_X3_valueOf R 0) - (G 2))) (r_X3_valueOf R 0))) p0 (r_X3_valueOf R 3)) (r_X3_bars R (r_X4_quotient (100 * ((r_X3_valueOf R 0) - (G 2))) (r_X3_valueOf R 0))) p0) < (G 2) then (r_X4_steamAt (r_X0_balance G sh (r_X3_bars R (r_X4_quotient (100 * ((r_X3_valueOf R 0) - (G 2))) (r_X3_valueOf R 0))) p0 (r_X3_valueOf R 3)) (r_X3_bars R (r_X4_quotient (100 * ((r_X3_valueOf R 0) - (G 2))) (r_X3_valueOf R 0))) p0) else (G 2))) (if (r_X4_steamAt (r_X0_balance G sh (r_X3_bars R (r_X4_quotient (100 * ((r_X3_valueOf R 0) - (G 2))) (r_X3_valueOf R 0))) p0 (r_X3_valueOf R 3)) (r_X3_bars R (r_X4_quotient (100 * ((r_X3_valueOf R 0) - (G 2))) (r_X3_valueOf R 0))) p0) < (G 2) then (r_X4_steamAt (r_X0_balance G sh (r_X3_bars R (r_X4_quotient (100 * ((r_X3_valueOf R 0) - (G 2))) (r_X3_valueOf R 0))) p0 (r_X3_valueOf R 3)) (r_X3_bars R (r_X4_quotient (100 * ((r_X3_valueOf R 0) - (G 2))) (r_X3_valueOf R 0))) p0) else (G 2)) (G 4) (G 5) (r_X0_balance G sh (r_X3_bars R (r_X4_quotient (100 * ((r_X3_valueOf R 0) - (G 2))) (r_X3_valueOf R 0))) p0 (r_X3_valueOf R 3)) (mg_X0_passMinute_101 G R sh p0 mi)) else (g8 (G 0) (G 1) ((G 2) - (if (r_X4_steamAt (r_X0_balance G sh (r_X3_bars R (r_X4_quotient (100 * ((r_X3_valueOf R 0) - (G 2))) (r_X3_valueOf R 0))) p0 (r_X3_valueOf R 3)) (r_X3_bars R (r_X4_quotient (100 * ((r_X3_valueOf R 0) - (G 2))) (r_X3_valueOf R 0))) p0) < (G 2) then (r_X4_steamAt (r_X0_balance G sh (r_X3_bars R (r_X4_quotient (100 * ((r_X3_valueOf R 0) - (G 2))) (r_X3_valueOf R 0))) p0 (r_X3_valueOf R 3)) (r_X3_bars R (r_X4_quotient (100 * ((r_X3_valueOf R 0) - (G 2))) (r_X3_valueOf R 0))) p0) else (G 2))) (if (r_X4_steamAt (r_X0_balance G sh (r_X3_bars R (r_X4_quotient (100 * ((r_X3_valueOf R 0) - (G 2))) (r_X3_valueOf R 0))) p0 (r_X3_valueOf R 3)) (r_X3_bars R (r_X4_quotient (100 * ((r_X3_valueOf R 0) - (G 2))) (r_X3_valueOf R 0))) p0) < (G 2) then (r_X4_steamAt (r_X0_balance G sh (r_X3_bars R (r_X4_quotient (100 * ((r_X3_valueOf R 0) - (G 2))) (r_X3_valueOf R 0))) p0 (r_X3_valueOf R 3)) (r_X3_bars R (r_X4_quotient (100 * ((r_X3_valueOf R 0) - (G 2))) (r_X3_valueOf R 0))) p0) else (G 2)) mi (G 5) (r_X0_balance G sh (r_X3_bars R (r_X4_quotient (100 * ((r_X3_valueOf R 0) - (G 2))) (r_X3_valueOf R 0))) p0 (r_X3_valueOf R 3)) (mg_X0_passMinute_101 G R sh p0 mi))) else (g8 (G 0) (G 1) ((G 2) - (if (r_X4_steamAt (r_X0_balance G sh (r_X3_bars R (r_X4_quotient (100 * ((r_X3_valueOf R 0) - (G 2))) (r_X3_valueOf R 0))) p0 (r_X3_valueOf R 3)) (r_X3_bars R (r_X4_quotient (100 * ((r_X3_valueOf R 0) - (G 2))) (r_X3_valueOf R 0))) p0) < (G 2) then (r_X4_steamAt (r_X0_balance G sh (r_X3_bars R (r_X4_quotient (100 * ((r_X3_valueOf R 0) - (G 2))) (r_X3_valueOf R 0))) p0 (r_X3_valueOf R 3)) (r_X3_bars R (r_X4_quotient (100 * ((r_X3_valueOf R 0) - (G 2))) (r_X3_valueOf R 0))) p0) else (G 2))) (if (r_X4_steamAt (r_X0_balance G sh (r_X3_bars R (r_X4_quotient (100 * ((r_X3_valueOf R 0) - (G 2))) (r_X3_valueOf R 0))) p0 (r_X3_valueOf R 3)) (r_X3_bars R (r_X4_quotient (100 * ((r_X3_valueOf R 0) - (G 2))) (r_X3_valueOf R 0))) p0) < (G 2) then (r_X4_steamAt (r_X0_balance G sh (r_X3_bars R (r_X4_quotient (100 * ((r_X3_valueOf R 0) - (G 2))) (r_X3_valueOf R 0))) p0 (r_X3_valueOf R 3)) (r_X3_bars R (r_X4_quotient (100 * ((r_X3_valueOf R 0) - (G 2))) (r_X3_valueOf R 0))) p0) else (G 2)) (G 4) (G 5) (r_X0_balance G sh (r_X3_bars R (r_X4_quotient (100 * ((r_X3_valueOf R 0) - (G 2))) (r_X3_valueOf R 0))) p0 (r_X3_valueOf R 3)) (mg_X0_passMinute_101 G R sh p0 mi))))
theorem ck_X0_passMinute : CK yX0_passMinute cX0_passMinute 7 none 4 := ⟨wd_2_29, wd_1_5, by decide, by decide, by decide +kernel⟩
set_option maxHeartbeats 4000000 in
set_option maxRecDepth 100000 in
theorem c_X0_passMinute (l : Launch) (D : va_G) (cI : ClassId) (ag : Nat) (G : Nat → Int32) (ar : Nat) (av : Nat) (R : Nat → Int32) (sh : Int32) (p0 : Int32) (mi : Int32) : MV l D cI yX0_passMinute cX0_passMinute 7 3 76 [.ref ag, .ref ar, .int sh, .int p0, .int mi] [gc ag G, rc ar av, ac cI av 11 R] [gc ag (q_X0_passMinute_G G R sh p0 mi), rc ar av, ac cI av 11 R] := by
  generalize ho_G : (q_X0_passMinute_G G R sh p0 mi) = o_G
  refine MV.mk (own := RX0) rfl (by decide) (Nat.le_of_ble_eq_true rfl) ?_
  intro p e s m args below meth c A Q C hD hend H locs ls hP hS hl
  have hx := C.1.1
  have hb := C.1.2.1
  have hl : lv_has ls 7 [(0, .ref ag), (1, .ref ar), (2, .int sh), (3, .int p0), (4, .int mi)] := hl
  refine lv_aload_n hx hb dX0_passMinute_0 rfl (lv_at hl 0 rfl) ?_
  refine kget (v := .int (G 2)) C hP igX0 rfl 2 (by decide) wd_1_49 0 rfl rfl dX0_passMinute_1 ?_
  refine lv_if_ne (tgt := 18) hx hb dX0_passMinute_4 (by decide) (fun c1 => ?_) (fun c1 => ?_)
  · refine lv_aload_n hx hb dX0_passMinute_18 rfl (lv_at hl 1 rfl) ?_
    refine lv_iconst (v := 0) hx hb dX0_passMinute_19 (by decide) ?_
    refine go_i (ws' := [gc ag G, rc ar av, ac cI av 11 R]) C (rn_V (As := [.int 0]) (rest := []) C (c_X3_valueOf l D cI ar av R 0 H.size) ck_X3_valueOf wd_1_183 wd_1_184 wd_2_30 ⟨Nat.le_of_ble_eq_true rfl, Nat.le_of_ble_eq_true rfl⟩ ⟨Nat.le_refl _, Nat.le_refl _⟩ (ci := 3) (q0 := 1) rfl rfl hP hD hS [1, 2] rfl rfl hl rfl (Nat.le_of_ble_eq_true rfl) dX0_passMinute_20) hP hD hS [1, 2] rfl rfl rfl (fun H locs hP hD hS => ?_)
    refine lv_istore (lv' := [(5, .int (r_X3_valueOf R 0)), (0, .ref ag), (1, .ref ar), (2, .int sh), (3, .int p0), (4, .int mi)]) hx hb dX0_passMinute_23 hl (by decide) rfl (fun ls hl => ?_)
    refine lv_aload_n hx hb dX0_passMinute_25 rfl (lv_at hl 2 rfl) ?_
    refine lv_bipush (v := 100) hx hb dX0_passMinute_26 (by decide) ?_
    refine lv_iload hx hb dX0_passMinute_28 (lv_at hl 0 rfl) ?_
    refine lv_aload_n hx hb dX0_passMinute_30 rfl (lv_at hl 1 rfl) ?_
    refine kget (v := .int (G 2)) C hP igX0 rfl 2 (by decide) wd_1_49 0 rfl rfl dX0_passMinute_31 ?_
    refine lv_isub hx hb dX0_passMinute_34 ?_
    refine lv_imul hx hb dX0_passMinute_35 ?_
    refine lv_iload hx hb dX0_passMinute_36 (lv_at hl 0 rfl) ?_
    refine go_i (ws' := [gc ag G, rc ar av, ac cI av 11 R]) C (rn_N (As := [.int (100 * ((r_X3_valueOf R 0) - (G 2))), .int (r_X3_valueOf R 0)]) (rest := [.ref ar]) C (c_X4_quotient l D cI (100 * ((r_X3_valueOf R 0) - (G 2))) (r_X3_valueOf R 0) H.size) ck_X4_quotient wd_1_209 C.2.2.1.1 ⟨Nat.le_of_ble_eq_true rfl, Nat.le_of_ble_eq_true rfl⟩ ⟨Nat.le_refl _, Nat.le_refl _⟩ hP hD hS [] rfl rfl hl rfl (Nat.le_of_ble_eq_true rfl) dX0_passMinute_38) hP hD hS [] rfl rfl rfl (fun H locs hP hD hS => ?_)
    refine go_i (ws' := [gc ag G, rc ar av, ac cI av 11 R]) C (rn_V (As := [.int (r_X4_quotient (100 * ((r_X3_valueOf R 0) - (G 2))) (r_X3_valueOf R 0))]) (rest := []) C (c_X3_bars l D cI ar av R (r_X4_quotient (100 * ((r_X3_valueOf R 0) - (G 2))) (r_X3_valueOf R 0)) H.size) ck_X3_bars wd_1_199 wd_1_200 wd_2_32 ⟨Nat.le_of_ble_eq_true rfl, Nat.le_of_ble_eq_true rfl⟩ ⟨Nat.le_refl _, Nat.le_refl _⟩ (ci := 3) (q0 := 1) rfl rfl hP hD hS [1, 2] rfl rfl hl rfl (Nat.le_of_ble_eq_true rfl) dX0_passMinute_41) hP hD hS [1, 2] rfl rfl rfl (fun H locs hP hD hS => ?_)
    refine lv_istore (lv' := [(6, .int (r_X3_bars R (r_X4_quotient (100 * ((r_X3_valueOf R 0) - (G 2))) (r_X3_valueOf R 0)))), (5, .int (r_X3_valueOf R 0)), (0, .ref ag), (1, .ref ar), (2, .int sh), (3, .int p0), (4, .int mi)]) hx hb dX0_passMinute_44 hl (by decide) rfl (fun ls hl => ?_)
    refine lv_aload_n hx hb dX0_passMinute_46 rfl (lv_at hl 2 rfl) ?_
    refine lv_aload_n hx hb dX0_passMinute_47 rfl (lv_at hl 2 rfl) ?_
    refine lv_iload_n hx hb dX0_passMinute_48 rfl (lv_at hl 4 rfl) ?_
    refine lv_iload hx hb dX0_passMinute_49 (lv_at hl 0 rfl) ?_
    refine lv_iload_n hx hb dX0_passMinute_51 rfl (lv_at hl 5 rfl) ?_
    refine lv_aload_n hx hb dX0_passMinute_52 rfl (lv_at hl 3 rfl) ?_
    refine lv_iconst (v := 3) hx hb dX0_passMinute_53 (by decide) ?_
    refine go_i (ws' := [gc ag G, rc ar av, ac cI av 11 R]) C (rn_V (As := [.int 3]) (rest := [.int p0, .int (r_X3_bars R (r_X4_quotient (100 * ((r_X3_valueOf R 0) - (G 2))) (r_X3_valueOf R 0))), .int sh, .ref ag, .ref ag]) C (c_X3_valueOf l D cI ar av R 3 H.size) ck_X3_valueOf wd_1_183 wd_1_184 wd_2_30 ⟨Nat.le_of_ble_eq_true rfl, Nat.le_of_ble_eq_true rfl⟩ ⟨Nat.le_refl _, Nat.le_refl _⟩ (ci := 3) (q0 := 1) rfl rfl hP hD hS [1, 2] rfl rfl hl rfl (Nat.le_of_ble_eq_true rfl) dX0_passMinute_54) hP hD hS [1, 2] rfl rfl rfl (fun H locs hP hD hS => ?_)
    refine go_i (ws' := [gc ag G, rc ar av, ac cI av 11 R]) C (rn_V (As := [.int sh, .int (r_X3_bars R (r_X4_quotient (100 * ((r_X3_valueOf R 0) - (G 2))) (r_X3_valueOf R 0))), .int p0, .int (r_X3_valueOf R 3)]) (rest := [.ref ag]) C (c_X0_balance l D cI ag G sh (r_X3_bars R (r_X4_quotient (100 * ((r_X3_valueOf R 0) - (G 2))) (r_X3_valueOf R 0))) p0 (r_X3_valueOf R 3) H.size) ck_X0_balance wd_2_35 wd_0_2 wd_2_33 ⟨Nat.le_of_ble_eq_true rfl, Nat.le_of_ble_eq_true rfl⟩ ⟨Nat.le_refl _, Nat.le_refl _⟩ (ci := 0) (q0 := 0) rfl rfl hP hD hS [0] rfl rfl hl rfl (Nat.le_of_ble_eq_true rfl) dX0_passMinute_57) hP hD hS [0] rfl rfl rfl (fun H locs hP hD hS => ?_)
    refine kput (ty := .int) (ws' := [gc ag (g8 (G 0) (G 1) (G 2) (G 3) (G 4) (G 5) (r_X0_balance G sh (r_X3_bars R (r_X4_quotient (100 * ((r_X3_valueOf R 0) - (G 2))) (r_X3_valueOf R 0))) p0 (r_X3_valueOf R 3)) (G 7)), rc ar av, ac cI av 11 R]) C hP hD hS igX0 tyX0_ok nmX0 rfl 6 (by decide) wd_1_57 rfl rfl rfl rfl 0 rfl (Nat.le_of_ble_eq_true rfl) rfl dX0_passMinute_60 (fun H locs hP hD hS => ?_)
    refine lv_aload_n hx hb dX0_passMinute_63 rfl (lv_at hl 2 rfl) ?_
    refine lv_aload_n hx hb dX0_passMinute_64 rfl (lv_at hl 2 rfl) ?_
    refine kget (v := .int (G 2)) C hP igX0 rfl 2 (by decide) wd_1_49 0 rfl rfl dX0_passMinute_65 ?_
    refine lv_aload_n hx hb dX0_passMinute_68 rfl (lv_at hl 2 rfl) ?_
    refine kget (v := .int (r_X0_balance G sh (r_X3_bars R (r_X4_quotient (100 * ((r_X3_valueOf R 0) - (G 2))) (r_X3_valueOf R 0))) p0 (r_X3_valueOf R 3))) C hP igX0 rfl 6 (by decide) wd_1_57 0 rfl rfl dX0_passMinute_69 ?_
    refine lv_iload hx hb dX0_passMinute_72 (lv_at hl 0 rfl) ?_
    refine lv_iload_n hx hb dX0_passMinute_74 rfl (lv_at hl 5 rfl) ?_
    refine go_i (ws' := [gc ag (g8 (G 0) (G 1) (G 2) (G 3) (G 4) (G 5) (r_X0_balance G sh (r_X3_bars R (r_X4_quotient (100 * ((r_X3_valueOf R 0) - (G 2))) (r_X3_valueOf R 0))) p0 (r_X3_valueOf R 3)) (G 7)), rc ar av, ac cI av 11 R]) C (rn_N (As := [.int (r_X0_balance G sh (r_X3_bars R (r_X4_quotient (100 * ((r_X3_valueOf R 0) - (G 2))) (r_X3_valueOf R 0))) p0 (r_X3_valueOf R 3)), .int (r_X3_bars R (r_X4_quotient (100 * ((r_X3_valueOf R 0) - (G 2))) (r_X3_valueOf R 0))), .int p0]) (rest := [.int (G 2), .ref ag]) C (c_X4_steamAt l D cI (r_X0_balance G sh (r_X3_bars R (r_X4_quotient (100 * ((r_X3_valueOf R 0) - (G 2))) (r_X3_valueOf R 0))) p0 (r_X3_valueOf R 3)) (r_X3_bars R (r_X4_quotient (100 * ((r_X3_valueOf R 0) - (G 2))) (r_X3_valueOf R 0))) p0 H.size) ck_X4_steamAt wd_1_203 C.2.2.1.2.1 ⟨Nat.le_of_ble_eq_true rfl, Nat.le_of_ble_eq_true rfl⟩ ⟨Nat.le_refl _, Nat.le_refl _⟩ hP hD hS [] rfl rfl hl rfl (Nat.le_of_ble_eq_true rfl) dX0_passMinute_75) hP hD hS [] rfl rfl rfl (fun H locs hP hD hS => ?_)
    refine kmin C hl wd_2_38 wd_2_39 wd_1_8 wd_2_40 ⟨by decide, Nat.le_of_ble_eq_true rfl⟩ ⟨Nat.le_refl _, Nat.le_refl _⟩ dX0_passMinute_78 ?_
    refine kput (ty := .int) (ws' := [gc ag (g8 (G 0) (G 1) (G 2) (if (r_X4_steamAt (r_X0_balance G sh (r_X3_bars R (r_X4_quotient (100 * ((r_X3_valueOf R 0) - (G 2))) (r_X3_valueOf R 0))) p0 (r_X3_valueOf R 3)) (r_X3_bars R (r_X4_quotient (100 * ((r_X3_valueOf R 0) - (G 2))) (r_X3_valueOf R 0))) p0) < (G 2) then (r_X4_steamAt (r_X0_balance G sh (r_X3_bars R (r_X4_quotient (100 * ((r_X3_valueOf R 0) - (G 2))) (r_X3_valueOf R 0))) p0 (r_X3_valueOf R 3)) (r_X3_bars R (r_X4_quotient (100 * ((r_X3_valueOf R 0) - (G 2))) (r_X3_valueOf R 0))) p0) else (G 2)) (G 4) (G 5) (r_X0_balance G sh (r_X3_bars R (r_X4_quotient (100 * ((r_X3_valueOf R 0) - (G 2))) (r_X3_valueOf R 0))) p0 (r_X3_valueOf R 3)) (G 7)), rc ar av, ac cI av 11 R]) C hP hD hS igX0 tyX0_ok nmX0 rfl 3 (by decide) wd_1_51 rfl rfl rfl rfl 0 rfl (Nat.le_of_ble_eq_true rfl) rfl dX0_passMinute_81 (fun H locs hP hD hS => ?_)
    refine lv_aload_n hx hb dX0_passMinute_84 rfl (lv_at hl 2 rfl) ?_
    refine lv_dup hx hb dX0_passMinute_85 rfl ?_
    refine kget (v := .int (G 2)) C hP igX0 rfl 2 (by decide) wd_1_49 0 rfl rfl dX0_passMinute_86 ?_
    refine lv_aload_n hx hb dX0_passMinute_89 rfl (lv_at hl 2 rfl) ?_
    refine kget (v := .int (if (r_X4_steamAt (r_X0_balance G sh (r_X3_bars R (r_X4_quotient (100 * ((r_X3_valueOf R 0) - (G 2))) (r_X3_valueOf R 0))) p0 (r_X3_valueOf R 3)) (r_X3_bars R (r_X4_quotient (100 * ((r_X3_valueOf R 0) - (G 2))) (r_X3_valueOf R 0))) p0) < (G 2) then (r_X4_steamAt (r_X0_balance G sh (r_X3_bars R (r_X4_quotient (100 * ((r_X3_valueOf R 0) - (G 2))) (r_X3_valueOf R 0))) p0 (r_X3_valueOf R 3)) (r_X3_bars R (r_X4_quotient (100 * ((r_X3_valueOf R 0) - (G 2))) (r_X3_valueOf R 0))) p0) else (G 2))) C hP igX0 rfl 3 (by decide) wd_1_51 0 rfl rfl dX0_passMinute_90 ?_
    refine lv_isub hx hb dX0_passMinute_93 ?_
    refine kput (ty := .int) (ws' := [gc ag (g8 (G 0) (G 1) ((G 2) - (if (r_X4_steamAt (r_X0_balance G sh (r_X3_bars R (r_X4_quotient (100 * ((r_X3_valueOf R 0) - (G 2))) (r_X3_valueOf R 0))) p0 (r_X3_valueOf R 3)) (r_X3_bars R (r_X4_quotient (100 * ((r_X3_valueOf R 0) - (G 2))) (r_X3_valueOf R 0))) p0) < (G 2) then (r_X4_steamAt (r_X0_balance G sh (r_X3_bars R (r_X4_quotient (100 * ((r_X3_valueOf R 0) - (G 2))) (r_X3_valueOf R 0))) p0 (r_X3_valueOf R 3)) (r_X3_bars R (r_X4_quotient (100 * ((r_X3_valueOf R 0) - (G 2))) (r_X3_valueOf R 0))) p0) else (G 2))) (if (r_X4_steamAt (r_X0_balance G sh (r_X3_bars R (r_X4_quotient (100 * ((r_X3_valueOf R 0) - (G 2))) (r_X3_valueOf R 0))) p0 (r_X3_valueOf R 3)) (r_X3_bars R (r_X4_quotient (100 * ((r_X3_valueOf R 0) - (G 2))) (r_X3_valueOf R 0))) p0) < (G 2) then (r_X4_steamAt (r_X0_balance G sh (r_X3_bars R (r_X4_quotient (100 * ((r_X3_valueOf R 0) - (G 2))) (r_X3_valueOf R 0))) p0 (r_X3_valueOf R 3)) (r_X3_bars R (r_X4_quotient (100 * ((r_X3_valueOf R 0) - (G 2))) (r_X3_valueOf R 0))) p0) else (G 2)) (G 4) (G 5) (r_X0_balance G sh (r_X3_bars R (r_X4_quotient (100 * ((r_X3_valueOf R 0) - (G 2))) (r_X3_valueOf R 0))) p0 (r_X3_valueOf R 3)) (G 7)), rc ar av, ac cI av 11 R]) C hP hD hS igX0 tyX0_ok nmX0 rfl 2 (by decide) wd_1_49 rfl rfl rfl rfl 0 rfl (Nat.le_of_ble_eq_true rfl) rfl dX0_passMinute_94 (fun H locs hP hD hS => ?_)
    refine lv_aload_n hx hb dX0_passMinute_97 rfl (lv_at hl 2 rfl) ?_
    refine kget (v := .int ((G 2) - (if (r_X4_steamAt (r_X0_balance G sh (r_X3_bars R (r_X4_quotient (100 * ((r_X3_valueOf R 0) - (G 2))) (r_X3_valueOf R 0))) p0 (r_X3_valueOf R 3)) (r_X3_bars R (r_X4_quotient (100 * ((r_X3_valueOf R 0) - (G 2))) (r_X3_valueOf R 0))) p0) < (G 2) then (r_X4_steamAt (r_X0_balance G sh (r_X3_bars R (r_X4_quotient (100 * ((r_X3_valueOf R 0) - (G 2))) (r_X3_valueOf R 0))) p0 (r_X3_valueOf R 3)) (r_X3_bars R (r_X4_quotient (100 * ((r_X3_valueOf R 0) - (G 2))) (r_X3_valueOf R 0))) p0) else (G 2)))) C hP igX0 rfl 2 (by decide) wd_1_49 0 rfl rfl dX0_passMinute_98 ?_
    have j110 : ∀ (ls : Array Slot) (H : Heap) (locs : List Loc), lv_has ls 7 [(0, .ref ag), (1, .ref ar), (2, .int sh), (3, .int p0), (4, .int mi), (5, .int (r_X3_valueOf R 0)), (6, .int (r_X3_bars R (r_X4_quotient (100 * ((r_X3_valueOf R 0) - (G 2))) (r_X3_valueOf R 0))))] → va_P D vwCl [gc ag (g8 (G 0) (G 1) ((G 2) - (if (r_X4_steamAt (r_X0_balance G sh (r_X3_bars R (r_X4_quotient (100 * ((r_X3_valueOf R 0) - (G 2))) (r_X3_valueOf R 0))) p0 (r_X3_valueOf R 3)) (r_X3_bars R (r_X4_quotient (100 * ((r_X3_valueOf R 0) - (G 2))) (r_X3_valueOf R 0))) p0) < (G 2) then (r_X4_steamAt (r_X0_balance G sh (r_X3_bars R (r_X4_quotient (100 * ((r_X3_valueOf R 0) - (G 2))) (r_X3_valueOf R 0))) p0 (r_X3_valueOf R 3)) (r_X3_bars R (r_X4_quotient (100 * ((r_X3_valueOf R 0) - (G 2))) (r_X3_valueOf R 0))) p0) else (G 2))) (if (r_X4_steamAt (r_X0_balance G sh (r_X3_bars R (r_X4_quotient (100 * ((r_X3_valueOf R 0) - (G 2))) (r_X3_valueOf R 0))) p0 (r_X3_valueOf R 3)) (r_X3_bars R (r_X4_quotient (100 * ((r_X3_valueOf R 0) - (G 2))) (r_X3_valueOf R 0))) p0) < (G 2) then (r_X4_steamAt (r_X0_balance G sh (r_X3_bars R (r_X4_quotient (100 * ((r_X3_valueOf R 0) - (G 2))) (r_X3_valueOf R 0))) p0 (r_X3_valueOf R 3)) (r_X3_bars R (r_X4_quotient (100 * ((r_X3_valueOf R 0) - (G 2))) (r_X3_valueOf R 0))) p0) else (G 2)) (G 4) (G 5) (r_X0_balance G sh (r_X3_bars R (r_X4_quotient (100 * ((r_X3_valueOf R 0) - (G 2))) (r_X3_valueOf R 0))) p0 (r_X3_valueOf R 3)) (mg_X0_passMinute_101 G R sh p0 mi)), rc ar av, ac cI av 11 R] H → va_D A [gc ag (g8 (G 0) (G 1) ((G 2) - (if (r_X4_steamAt (r_X0_balance G sh (r_X3_bars R (r_X4_quotient (100 * ((r_X3_valueOf R 0) - (G 2))) (r_X3_valueOf R 0))) p0 (r_X3_valueOf R 3)) (r_X3_bars R (r_X4_quotient (100 * ((r_X3_valueOf R 0) - (G 2))) (r_X3_valueOf R 0))) p0) < (G 2) then (r_X4_steamAt (r_X0_balance G sh (r_X3_bars R (r_X4_quotient (100 * ((r_X3_valueOf R 0) - (G 2))) (r_X3_valueOf R 0))) p0 (r_X3_valueOf R 3)) (r_X3_bars R (r_X4_quotient (100 * ((r_X3_valueOf R 0) - (G 2))) (r_X3_valueOf R 0))) p0) else (G 2))) (if (r_X4_steamAt (r_X0_balance G sh (r_X3_bars R (r_X4_quotient (100 * ((r_X3_valueOf R 0) - (G 2))) (r_X3_valueOf R 0))) p0 (r_X3_valueOf R 3)) (r_X3_bars R (r_X4_quotient (100 * ((r_X3_valueOf R 0) - (G 2))) (r_X3_valueOf R 0))) p0) < (G 2) then (r_X4_steamAt (r_X0_balance G sh (r_X3_bars R (r_X4_quotient (100 * ((r_X3_valueOf R 0) - (G 2))) (r_X3_valueOf R 0))) p0 (r_X3_valueOf R 3)) (r_X3_bars R (r_X4_quotient (100 * ((r_X3_valueOf R 0) - (G 2))) (r_X3_valueOf R 0))) p0) else (G 2)) (G 4) (G 5) (r_X0_balance G sh (r_X3_bars R (r_X4_quotient (100 * ((r_X3_valueOf R 0) - (G 2))) (r_X3_valueOf R 0))) p0 (r_X3_valueOf R 3)) (mg_X0_passMinute_101 G R sh p0 mi)), rc ar av, ac cI av 11 R] → va_S A s.heap H locs → W p l e (RM 3 76) s m args below meth c H locs 0 0 Q (F0 m 110 ls []) := by
      intro ls H locs hl hP hD hS
      refine lv_aload_n hx hb dX0_passMinute_110 rfl (lv_at hl 0 rfl) ?_
      refine kget (v := .int (G 4)) C hP igX0 rfl 4 (by decide) wd_1_53 0 rfl rfl dX0_passMinute_111 ?_
      refine lv_bipush (v := (-6)) hx hb dX0_passMinute_114 (by decide) ?_
      refine lv_icmp_ne (tgt := 138) hx hb dX0_passMinute_116 (by decide) (fun c3 => ?_) (fun c3 => ?_)
      · exact hend _ _ _ _ (by rw [← ho_G, q_X0_passMinute_G, if_neg c1, if_neg c3]; exact hP) hS dX0_passMinute_138
      · refine lv_aload_n hx hb dX0_passMinute_119 rfl (lv_at hl 0 rfl) ?_
        refine kget (v := .int (r_X0_balance G sh (r_X3_bars R (r_X4_quotient (100 * ((r_X3_valueOf R 0) - (G 2))) (r_X3_valueOf R 0))) p0 (r_X3_valueOf R 3))) C hP igX0 rfl 6 (by decide) wd_1_57 0 rfl rfl dX0_passMinute_120 ?_
        refine lv_aload_n hx hb dX0_passMinute_123 rfl (lv_at hl 1 rfl) ?_
        refine lv_bipush (v := 6) hx hb dX0_passMinute_124 (by decide) ?_
        refine go_i (ws' := [gc ag (g8 (G 0) (G 1) ((G 2) - (if (r_X4_steamAt (r_X0_balance G sh (r_X3_bars R (r_X4_quotient (100 * ((r_X3_valueOf R 0) - (G 2))) (r_X3_valueOf R 0))) p0 (r_X3_valueOf R 3)) (r_X3_bars R (r_X4_quotient (100 * ((r_X3_valueOf R 0) - (G 2))) (r_X3_valueOf R 0))) p0) < (G 2) then (r_X4_steamAt (r_X0_balance G sh (r_X3_bars R (r_X4_quotient (100 * ((r_X3_valueOf R 0) - (G 2))) (r_X3_valueOf R 0))) p0 (r_X3_valueOf R 3)) (r_X3_bars R (r_X4_quotient (100 * ((r_X3_valueOf R 0) - (G 2))) (r_X3_valueOf R 0))) p0) else (G 2))) (if (r_X4_steamAt (r_X0_balance G sh (r_X3_bars R (r_X4_quotient (100 * ((r_X3_valueOf R 0) - (G 2))) (r_X3_valueOf R 0))) p0 (r_X3_valueOf R 3)) (r_X3_bars R (r_X4_quotient (100 * ((r_X3_valueOf R 0) - (G 2))) (r_X3_valueOf R 0))) p0) < (G 2) then (r_X4_steamAt (r_X0_balance G sh (r_X3_bars R (r_X4_quotient (100 * ((r_X3_valueOf R 0) - (G 2))) (r_X3_valueOf R 0))) p0 (r_X3_valueOf R 3)) (r_X3_bars R (r_X4_quotient (100 * ((r_X3_valueOf R 0) - (G 2))) (r_X3_valueOf R 0))) p0) else (G 2)) (G 4) (G 5) (r_X0_balance G sh (r_X3_bars R (r_X4_quotient (100 * ((r_X3_valueOf R 0) - (G 2))) (r_X3_valueOf R 0))) p0 (r_X3_valueOf R 3)) (mg_X0_passMinute_101 G R sh p0 mi)), rc ar av, ac cI av 11 R]) C (rn_V (As := [.int 6]) (rest := [.int (r_X0_balance G sh (r_X3_bars R (r_X4_quotient (100 * ((r_X3_valueOf R 0) - (G 2))) (r_X3_valueOf R 0))) p0 (r_X3_valueOf R 3))]) C (c_X3_valueOf l D cI ar av R 6 H.size) ck_X3_valueOf wd_1_183 wd_1_184 wd_2_30 ⟨Nat.le_of_ble_eq_true rfl, Nat.le_of_ble_eq_true rfl⟩ ⟨Nat.le_refl _, Nat.le_refl _⟩ (ci := 3) (q0 := 1) rfl rfl hP hD hS [1, 2] rfl rfl hl rfl (Nat.le_of_ble_eq_true rfl) dX0_passMinute_126) hP hD hS [1, 2] rfl rfl rfl (fun H locs hP hD hS => ?_)
        refine lv_icmp_le (tgt := 138) hx hb dX0_passMinute_129 (by decide) (fun c4 => ?_) (fun c4 => ?_)
        · exact hend _ _ _ _ (by rw [← ho_G, q_X0_passMinute_G, if_neg c1, if_pos c3, if_pos c4]; exact hP) hS dX0_passMinute_138
        · refine lv_aload_n hx hb dX0_passMinute_132 rfl (lv_at hl 0 rfl) ?_
          refine lv_iload hx hb dX0_passMinute_133 (lv_at hl 4 rfl) ?_
          refine kput (ty := .int) (ws' := [gc ag (g8 (G 0) (G 1) ((G 2) - (if (r_X4_steamAt (r_X0_balance G sh (r_X3_bars R (r_X4_quotient (100 * ((r_X3_valueOf R 0) - (G 2))) (r_X3_valueOf R 0))) p0 (r_X3_valueOf R 3)) (r_X3_bars R (r_X4_quotient (100 * ((r_X3_valueOf R 0) - (G 2))) (r_X3_valueOf R 0))) p0) < (G 2) then (r_X4_steamAt (r_X0_balance G sh (r_X3_bars R (r_X4_quotient (100 * ((r_X3_valueOf R 0) - (G 2))) (r_X3_valueOf R 0))) p0 (r_X3_valueOf R 3)) (r_X3_bars R (r_X4_quotient (100 * ((r_X3_valueOf R 0) - (G 2))) (r_X3_valueOf R 0))) p0) else (G 2))) (if (r_X4_steamAt (r_X0_balance G sh (r_X3_bars R (r_X4_quotient (100 * ((r_X3_valueOf R 0) - (G 2))) (r_X3_valueOf R 0))) p0 (r_X3_valueOf R 3)) (r_X3_bars R (r_X4_quotient (100 * ((r_X3_valueOf R 0) - (G 2))) (r_X3_valueOf R 0))) p0) < (G 2) then (r_X4_steamAt (r_X0_balance G sh (r_X3_bars R (r_X4_quotient (100 * ((r_X3_valueOf R 0) - (G 2))) (r_X3_valueOf R 0))) p0 (r_X3_valueOf R 3)) (r_X3_bars R (r_X4_quotient (100 * ((r_X3_valueOf R 0) - (G 2))) (r_X3_valueOf R 0))) p0) else (G 2)) mi (G 5) (r_X0_balance G sh (r_X3_bars R (r_X4_quotient (100 * ((r_X3_valueOf R 0) - (G 2))) (r_X3_valueOf R 0))) p0 (r_X3_valueOf R 3)) (mg_X0_passMinute_101 G R sh p0 mi)), rc ar av, ac cI av 11 R]) C hP hD hS igX0 tyX0_ok nmX0 rfl 4 (by decide) wd_1_53 rfl rfl rfl rfl 0 rfl (Nat.le_of_ble_eq_true rfl) rfl dX0_passMinute_135 (fun H locs hP hD hS => ?_)
          exact hend _ _ _ _ (by rw [← ho_G, q_X0_passMinute_G, if_neg c1, if_pos c3, if_neg c4]; exact hP) hS dX0_passMinute_138
    refine lv_if_ne (tgt := 110) hx hb dX0_passMinute_101 (by decide) (fun c2 => ?_) (fun c2 => ?_)
    · have e_mg_X0_passMinute_101 : (mg_X0_passMinute_101 G R sh p0 mi) = (G 7) := by rw [mg_X0_passMinute_101, if_neg c2]
      have jj := j110
      rw [e_mg_X0_passMinute_101] at jj
      exact jj ls H locs (lv_sub hl [2, 3, 4, 5, 6, 1, 0] rfl) hP hD hS
    · refine lv_aload_n hx hb dX0_passMinute_104 rfl (lv_at hl 2 rfl) ?_
      refine lv_iload hx hb dX0_passMinute_105 (lv_at hl 6 rfl) ?_
      refine kput (ty := .int) (ws' := [gc ag (g8 (G 0) (G 1) ((G 2) - (if (r_X4_steamAt (r_X0_balance G sh (r_X3_bars R (r_X4_quotient (100 * ((r_X3_valueOf R 0) - (G 2))) (r_X3_valueOf R 0))) p0 (r_X3_valueOf R 3)) (r_X3_bars R (r_X4_quotient (100 * ((r_X3_valueOf R 0) - (G 2))) (r_X3_valueOf R 0))) p0) < (G 2) then (r_X4_steamAt (r_X0_balance G sh (r_X3_bars R (r_X4_quotient (100 * ((r_X3_valueOf R 0) - (G 2))) (r_X3_valueOf R 0))) p0 (r_X3_valueOf R 3)) (r_X3_bars R (r_X4_quotient (100 * ((r_X3_valueOf R 0) - (G 2))) (r_X3_valueOf R 0))) p0) else (G 2))) (if (r_X4_steamAt (r_X0_balance G sh (r_X3_bars R (r_X4_quotient (100 * ((r_X3_valueOf R 0) - (G 2))) (r_X3_valueOf R 0))) p0 (r_X3_valueOf R 3)) (r_X3_bars R (r_X4_quotient (100 * ((r_X3_valueOf R 0) - (G 2))) (r_X3_valueOf R 0))) p0) < (G 2) then (r_X4_steamAt (r_X0_balance G sh (r_X3_bars R (r_X4_quotient (100 * ((r_X3_valueOf R 0) - (G 2))) (r_X3_valueOf R 0))) p0 (r_X3_valueOf R 3)) (r_X3_bars R (r_X4_quotient (100 * ((r_X3_valueOf R 0) - (G 2))) (r_X3_valueOf R 0))) p0) else (G 2)) (G 4) (G 5) (r_X0_balance G sh (r_X3_bars R (r_X4_quotient (100 * ((r_X3_valueOf R 0) - (G 2))) (r_X3_valueOf R 0))) p0 (r_X3_valueOf R 3)) mi), rc ar av, ac cI av 11 R]) C hP hD hS igX0 tyX0_ok nmX0 rfl 7 (by decide) wd_1_58 rfl rfl rfl rfl 0 rfl (Nat.le_of_ble_eq_true rfl) rfl dX0_passMinute_107 (fun H locs hP hD hS => ?_)
      have e_mg_X0_passMinute_101 : (mg_X0_passMinute_101 G R sh p0 mi) = mi := by rw [mg_X0_passMinute_101, if_pos c2]
      have jj := j110
      rw [e_mg_X0_passMinute_101] at jj
      exact jj ls H locs (lv_sub hl [2, 3, 4, 5, 6, 1, 0] rfl) hP hD hS
  · refine lv_aload_n hx hb dX0_passMinute_7 rfl (lv_at hl 0 rfl) ?_
    refine lv_iload_n hx hb dX0_passMinute_8 rfl (lv_at hl 2 rfl) ?_
    refine kput (ty := .int) (ws' := [gc ag (g8 (G 0) (G 1) (G 2) (G 3) (G 4) (G 5) sh (G 7)), rc ar av, ac cI av 11 R]) C hP hD hS igX0 tyX0_ok nmX0 rfl 6 (by decide) wd_1_57 rfl rfl rfl rfl 0 rfl (Nat.le_of_ble_eq_true rfl) rfl dX0_passMinute_9 (fun H locs hP hD hS => ?_)
    refine lv_aload_n hx hb dX0_passMinute_12 rfl (lv_at hl 0 rfl) ?_
    refine lv_iconst (v := 0) hx hb dX0_passMinute_13 (by decide) ?_
    refine kput (ty := .int) (ws' := [gc ag (g8 (G 0) (G 1) (G 2) 0 (G 4) (G 5) sh (G 7)), rc ar av, ac cI av 11 R]) C hP hD hS igX0 tyX0_ok nmX0 rfl 3 (by decide) wd_1_51 rfl rfl rfl rfl 0 rfl (Nat.le_of_ble_eq_true rfl) rfl dX0_passMinute_14 (fun H locs hP hD hS => ?_)
    exact hend _ _ _ _ (by rw [← ho_G, q_X0_passMinute_G, if_pos c1]; exact hP) hS dX0_passMinute_17
