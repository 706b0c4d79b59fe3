def r_X1_holds (k : Int32) : Int32 := (r_X4_within k 0 2000)
theorem ck_X1_holds : CK yX1_holds cX1_holds 1 (some .boolean) 1 := ⟨wd_1_239, wd_1_6, by decide, by decide, by decide +kernel⟩
theorem b_X1_holds (k : Int32) : (r_X1_holds k) = 0 ∨ (r_X1_holds k) = 1 := b_X4_within _ _ _
set_option maxHeartbeats 4000000 in
set_option maxRecDepth 100000 in
theorem c_X1_holds (l : Launch) (D : va_G) (cI : ClassId) (k : Int32) : MI l D cI yX1_holds cX1_holds 1 (some .boolean) 1 22 [.int k] [] (r_X1_holds k) [] := by
  have hn : narrow .boolean (.int (r_X1_holds k)) = .int (r_X1_holds k) := nb (b_X1_holds k)
  generalize hr : (r_X1_holds k) = r at hn ⊢
  refine MI.mk (own := RX1) rfl (by decide) hn (Nat.le_of_ble_eq_true rfl) ?_
  intro p e s m args below meth c A Q C hD hend H locs ls hP hS hl
  have hx := C.1.1
  have hb := C.1.2.1
  have hl : lv_has ls 1 [(0, .int k)] := hl
  refine lv_iload_n hx hb dX1_holds_0 rfl (lv_at hl 0 rfl) ?_
  refine lv_iconst (v := 0) hx hb dX1_holds_1 (by decide) ?_
  refine lv_sipush (v := 2000) hx hb dX1_holds_2 (by decide) ?_
  refine go_i (ws' := []) C (rn_N (As := [.int k, .int 0, .int 2000]) (rest := []) C (c_X4_within l D cI k 0 2000 H.size) ck_X4_within wd_1_156 C.2.2.1.2.2.1 ⟨Nat.le_of_ble_eq_true rfl, Nat.le_of_ble_eq_true rfl⟩ ⟨Nat.le_refl _, Nat.le_refl _⟩ hP hD hS [] rfl rfl hl rfl (Nat.le_of_ble_eq_true rfl) dX1_holds_5) hP hD hS [] rfl rfl rfl (fun H locs hP hD hS => ?_)
  exact hend _ _ _ _ _ (by rw [← hr, r_X1_holds]) hP hS dX1_holds_8
theorem in_holds {k : Int32} (h : ¬ r_X1_holds k = 0) : vp_in k 2001 := by
  have h := wit.mp h
  have e0 : (0 : Int32).toInt = 0 := rfl
  have e1 : (2000 : Int32).toInt = 2000 := rfl
  exact vp_in_iff.mpr (by omega)
theorem cnt_lt {mo mi : Int32} {n : Nat} (hmo : mo.toInt < 2147483647) (c : ¬ mo < mi) (hm : (mo.toInt + 1 - mi.toInt).toNat < n + 1) : (mo.toInt + 1 - (mi + 1).toInt).toNat < n := by
  have c1 : ¬ mo.toInt < mi.toInt := fun h => c ((tI_lt mo mi).mpr h)
  have e1 : (1 : Int32).toInt = 1 := rfl
  have h0 := rng mi
  rw [addI (by omega) (by omega), e1]
  omega
theorem cnt2_lt {mo i : Int32} {n : Nat} (c : ¬ mo ≤ i) (hm : (mo.toInt - i.toInt).toNat < n + 1) : (mo.toInt - (i + 1).toInt).toNat < n := by
  have c1 : ¬ mo.toInt ≤ i.toInt := fun h => c ((tI_le mo i).mpr h)
  have e1 : (1 : Int32).toInt = 1 := rfl
  have h0 := rng i
  have h1 := rng mo
  rw [addI (by omega) (by omega), e1]
  omega
theorem cnt3_lt {t : Int32} {n : Nat} (c : ¬ 400 < t) (hm : (450 - t.toInt).toNat < n + 1) : (450 - (t + 50).toInt).toNat < n := by
  have e4 : (400 : Int32).toInt = 400 := rfl
  have e5 : (50 : Int32).toInt = 50 := rfl
  have c1 : ¬ 400 < t.toInt := fun h => c ((tI_lt 400 t).mpr h)
  have h0 := rng t
  rw [addI (by omega) (by omega), e5]
  omega
def r_X1_oneAt (o1 : Nat → Int32) (k : Int32) : Int32 := (if (r_X1_holds k) = 0 then (-1) else (o1 (Int32.toNatClampNeg k)))
theorem ck_X1_oneAt : CK yX1_oneAt cX1_oneAt 2 (some .int) 1 := ⟨wd_2_79, wd_1_6, by decide, by decide, by decide +kernel⟩
set_option maxHeartbeats 4000000 in
set_option maxRecDepth 100000 in
theorem c_X1_oneAt (l : Launch) (D : va_G) (cI : ClassId) (ah : Nat) (a1 : Nat) (a2 : Nat) (a3 : Nat) (o1 : Nat → Int32) (o2 : Nat → Int32) (o3 : Nat → Int32) (k : Int32) : MI l D cI yX1_oneAt cX1_oneAt 2 (some .int) 2 42 [.ref ah, .int k] [hc ah a1 a2 a3, ac cI a1 2001 o1, ac cI a2 2001 o2, ac cI a3 2001 o3] (r_X1_oneAt o1 k) [hc ah a1 a2 a3, ac cI a1 2001 o1, ac cI a2 2001 o2, ac cI a3 2001 o3] := by
  generalize hr : (r_X1_oneAt o1 k) = r
  refine MI.mk (own := RX1) rfl (by decide) rfl (Nat.le_of_ble_eq_true rfl) ?_
  intro p e s m args below meth c A Q C hD hend H locs ls hP hS hl
  have hx := C.1.1
  have hb := C.1.2.1
  have hl : lv_has ls 2 [(0, .ref ah), (1, .int k)] := hl
  refine lv_iload_n hx hb dX1_oneAt_0 rfl (lv_at hl 1 rfl) ?_
  refine go_i (ws' := [hc ah a1 a2 a3, ac cI a1 2001 o1, ac cI a2 2001 o2, ac cI a3 2001 o3]) C (rn_S (As := [.int k]) (rest := []) C (c_X1_holds l D cI k H.size) ck_X1_holds wd_1_238 wd_1_237 ⟨Nat.le_of_ble_eq_true rfl, Nat.le_of_ble_eq_true rfl⟩ ⟨Nat.le_refl _, Nat.le_refl _⟩ hP hD hS [] rfl rfl hl rfl (Nat.le_of_ble_eq_true rfl) dX1_oneAt_1) hP hD hS [] rfl rfl rfl (fun H locs hP hD hS => ?_)
  refine lv_if_eq (tgt := 16) hx hb dX1_oneAt_4 (by decide) (fun c1 => ?_) (fun c1 => ?_)
  · refine lv_iconst (v := (-1)) hx hb dX1_oneAt_16 (by decide) ?_
    exact hend _ _ _ _ _ (by rw [← hr, r_X1_oneAt, if_pos c1]) hP hS dX1_oneAt_17
  · refine lv_aload_n hx hb dX1_oneAt_7 rfl (lv_at hl 0 rfl) ?_
    refine kget (v := .ref a1) C hP igX1 rfl 0 (by decide) wd_1_110 0 rfl rfl dX1_oneAt_8 ?_
    refine lv_iload_n hx hb dX1_oneAt_11 rfl (lv_at hl 1 rfl) ?_
    refine kald C hP 1 rfl (in_holds c1) (k := (Int32.toNatClampNeg k)) rfl dX1_oneAt_12 ?_
    refine lv_goto (tgt := 17) hx hb dX1_oneAt_13 (by decide) ?_
    exact hend _ _ _ _ _ (by rw [← hr, r_X1_oneAt, if_neg c1]) hP hS dX1_oneAt_17
def r_X1_otherAt (o2 : Nat → Int32) (k : Int32) : Int32 := (if (r_X1_holds k) = 0 then (-1) else (o2 (Int32.toNatClampNeg k)))
theorem ck_X1_otherAt : CK yX1_otherAt cX1_otherAt 2 (some .int) 1 := ⟨wd_2_83, wd_1_6, by decide, by decide, by decide +kernel⟩
set_option maxHeartbeats 4000000 in
set_option maxRecDepth 100000 in
theorem c_X1_otherAt (l : Launch) (D : va_G) (cI : ClassId) (ah : Nat) (a1 : Nat) (a2 : Nat) (a3 : Nat) (o1 : Nat → Int32) (o2 : Nat → Int32) (o3 : Nat → Int32) (k : Int32) : MI l D cI yX1_otherAt cX1_otherAt 2 (some .int) 2 42 [.ref ah, .int k] [hc ah a1 a2 a3, ac cI a1 2001 o1, ac cI a2 2001 o2, ac cI a3 2001 o3] (r_X1_otherAt o2 k) [hc ah a1 a2 a3, ac cI a1 2001 o1, ac cI a2 2001 o2, ac cI a3 2001 o3] := by
  generalize hr : (r_X1_otherAt o2 k) = r
  refine MI.mk (own := RX1) rfl (by decide) rfl (Nat.le_of_ble_eq_true rfl) ?_
  intro p e s m args below meth c A Q C hD hend H locs ls hP hS hl
  have hx := C.1.1
  have hb := C.1.2.1
  have hl : lv_has ls 2 [(0, .ref ah), (1, .int k)] := hl
  refine lv_iload_n hx hb dX1_otherAt_0 rfl (lv_at hl 1 rfl) ?_
  refine go_i (ws' := [hc ah a1 a2 a3, ac cI a1 2001 o1, ac cI a2 2001 o2, ac cI a3 2001 o3]) C (rn_S (As := [.int k]) (rest := []) C (c_X1_holds l D cI k H.size) ck_X1_holds wd_1_238 wd_1_237 ⟨Nat.le_of_ble_eq_true rfl, Nat.le_of_ble_eq_true rfl⟩ ⟨Nat.le_refl _, Nat.le_refl _⟩ hP hD hS [] rfl rfl hl rfl (Nat.le_of_ble_eq_true rfl) dX1_otherAt_1) hP hD hS [] rfl rfl rfl (fun H locs hP hD hS => ?_)
  refine lv_if_eq (tgt := 16) hx hb dX1_otherAt_4 (by decide) (fun c1 => ?_) (fun c1 => ?_)
  · refine lv_iconst (v := (-1)) hx hb dX1_otherAt_16 (by decide) ?_
    exact hend _ _ _ _ _ (by rw [← hr, r_X1_otherAt, if_pos c1]) hP hS dX1_otherAt_17
  · refine lv_aload_n hx hb dX1_otherAt_7 rfl (lv_at hl 0 rfl) ?_
    refine kget (v := .ref a2) C hP igX1 rfl 1 (by decide) wd_1_111 0 rfl rfl dX1_otherAt_8 ?_
    refine lv_iload_n hx hb dX1_otherAt_11 rfl (lv_at hl 1 rfl) ?_
    refine kald C hP 2 rfl (in_holds c1) (k := (Int32.toNatClampNeg k)) rfl dX1_otherAt_12 ?_
    refine lv_goto (tgt := 17) hx hb dX1_otherAt_13 (by decide) ?_
    exact hend _ _ _ _ _ (by rw [← hr, r_X1_otherAt, if_neg c1]) hP hS dX1_otherAt_17
def r_X1_withIceAt (o3 : Nat → Int32) (k : Int32) : Int32 := (if (r_X1_holds k) = 0 then (-1) else (o3 (Int32.toNatClampNeg k)))
theorem ck_X1_withIceAt : CK yX1_withIceAt cX1_withIceAt 2 (some .int) 1 := ⟨wd_2_101, wd_1_6, by decide, by decide, by decide +kernel⟩
set_option maxHeartbeats 4000000 in
set_option maxRecDepth 100000 in
theorem c_X1_withIceAt (l : Launch) (D : va_G) (cI : ClassId) (ah : Nat) (a1 : Nat) (a2 : Nat) (a3 : Nat) (o1 : Nat → Int32) (o2 : Nat → Int32) (o3 : Nat → Int32) (k : Int32) : MI l D cI yX1_withIceAt cX1_withIceAt 2 (some .int) 2 42 [.ref ah, .int k] [hc ah a1 a2 a3, ac cI a1 2001 o1, ac cI a2 2001 o2, ac cI a3 2001 o3] (r_X1_withIceAt o3 k) [hc ah a1 a2 a3, ac cI a1 2001 o1, ac cI a2 2001 o2, ac cI a3 2001 o3] := by
  generalize hr : (r_X1_withIceAt o3 k) = r
  refine MI.mk (own := RX1) rfl (by decide) rfl (Nat.le_of_ble_eq_true rfl) ?_
  intro p e s m args below meth c A Q C hD hend H locs ls hP hS hl
  have hx := C.1.1
  have hb := C.1.2.1
  have hl : lv_has ls 2 [(0, .ref ah), (1, .int k)] := hl
  refine lv_iload_n hx hb dX1_withIceAt_0 rfl (lv_at hl 1 rfl) ?_
  refine go_i (ws' := [hc ah a1 a2 a3, ac cI a1 2001 o1, ac cI a2 2001 o2, ac cI a3 2001 o3]) C (rn_S (As := [.int k]) (rest := []) C (c_X1_holds l D cI k H.size) ck_X1_holds wd_1_238 wd_1_237 ⟨Nat.le_of_ble_eq_true rfl, Nat.le_of_ble_eq_true rfl⟩ ⟨Nat.le_refl _, Nat.le_refl _⟩ hP hD hS [] rfl rfl hl rfl (Nat.le_of_ble_eq_true rfl) dX1_withIceAt_1) hP hD hS [] rfl rfl rfl (fun H locs hP hD hS => ?_)
  refine lv_if_eq (tgt := 16) hx hb dX1_withIceAt_4 (by decide) (fun c1 => ?_) (fun c1 => ?_)
  · refine lv_iconst (v := (-1)) hx hb dX1_withIceAt_16 (by decide) ?_
    exact hend _ _ _ _ _ (by rw [← hr, r_X1_withIceAt, if_pos c1]) hP hS dX1_withIceAt_17
  · refine lv_aload_n hx hb dX1_withIceAt_7 rfl (lv_at hl 0 rfl) ?_
    refine kget (v := .ref a3) C hP igX1 rfl 2 (by decide) wd_1_112 0 rfl rfl dX1_withIceAt_8 ?_
    refine lv_iload_n hx hb dX1_withIceAt_11 rfl (lv_at hl 1 rfl) ?_
    refine kald C hP 3 rfl (in_holds c1) (k := (Int32.toNatClampNeg k)) rfl dX1_withIceAt_12 ?_
    refine lv_goto (tgt := 17) hx hb dX1_withIceAt_13 (by decide) ?_
    exact hend _ _ _ _ _ (by rw [← hr, r_X1_withIceAt, if_neg c1]) hP hS dX1_withIceAt_17
def mg_X1_findEnd_26 (o1 : Nat → Int32) (o2 : Nat → Int32) (to : Int32) (tg : Int32) (mi : Int32) : Int32 := (if to < ((r_X1_otherAt o2 mi) - (r_X1_oneAt o1 mi)) then 0 else (tg + 1))
def lr_X1_findEnd_6 (o1 : Nat → Int32) (o2 : Nat → Int32) (mo : Int32) (to : Int32) (hd : Int32) : Nat → (Int32) → (Int32) → (Int32)
  | 0, _, _ => 0
  | n + 1, tg, mi => (if mo < mi then (-6) else (if (mg_X1_findEnd_26 o1 o2 to tg mi) < hd then (lr_X1_findEnd_6 o1 o2 mo to hd n (mg_X1_findEnd_26 o1 o2 to tg mi) (mi + 1)) else mi))
noncomputable def r_X1_findEnd (o1 : Nat → Int32) (o2 : Nat → Int32) (mo : Int32) (to : Int32) (hd : Int32) : Int32 := (lr_X1_findEnd_6 o1 o2 mo to hd (fu ((Int32.toInt mo).toNat + 1)) 0 1)
theorem ck_X1_findEnd : CK yX1_findEnd cX1_findEnd 6 (some .int) 3 := ⟨wd_2_91, wd_1_6, by decide, by decide, by decide +kernel⟩
set_option maxHeartbeats 4000000 in
set_option maxRecDepth 100000 in
theorem c_X1_findEnd (l : Launch) (D : va_G) (cI : ClassId) (ah : Nat) (a1 : Nat) (a2 : Nat) (a3 : Nat) (o1 : Nat → Int32) (o2 : Nat → Int32) (o3 : Nat → Int32) (mo : Int32) (to : Int32) (hd : Int32) (hmo : Int32.toInt mo < 2147483647) : MI l D cI yX1_findEnd cX1_findEnd 6 (some .int) 3 63 [.ref ah, .int mo, .int to, .int hd] [hc ah a1 a2 a3, ac cI a1 2001 o1, ac cI a2 2001 o2, ac cI a3 2001 o3] (r_X1_findEnd o1 o2 mo to hd) [hc ah a1 a2 a3, ac cI a1 2001 o1, ac cI a2 2001 o2, ac cI a3 2001 o3] := by
  generalize hr : (r_X1_findEnd o1 o2 mo to hd) = r
  refine MI.mk (own := RX1) rfl (by decide) rfl (Nat.le_of_ble_eq_true rfl) ?_
  intro p e s m args below meth c A Q C hD hend H locs ls hP hS hl
  have hx := C.1.1
  have hb := C.1.2.1
  have hl : lv_has ls 6 [(0, .ref ah), (1, .int mo), (2, .int to), (3, .int hd)] := hl
  refine lv_iconst (v := 0) hx hb dX1_findEnd_0 (by decide) ?_
  refine lv_istore (lv' := [(4, .int 0), (0, .ref ah), (1, .int mo), (2, .int to), (3, .int hd)]) hx hb dX1_findEnd_1 hl (by decide) rfl (fun ls hl => ?_)
  refine lv_iconst (v := 1) hx hb dX1_findEnd_3 (by decide) ?_
  refine lv_istore (lv' := [(5, .int 1), (4, .int 0), (0, .ref ah), (1, .int mo), (2, .int to), (3, .int hd)]) hx hb dX1_findEnd_4 hl (by decide) rfl (fun ls hl => ?_)
  have lp6 : ∀ (n : Nat) (tg : Int32) (mi : Int32), (Int32.toInt mo + 1 - Int32.toInt mi).toNat < n → lr_X1_findEnd_6 o1 o2 mo to hd n tg mi = r → ∀ (ls : Array Slot) (H : Heap) (locs : List Loc), lv_has ls 6 [(0, .ref ah), (1, .int mo), (2, .int to), (3, .int hd), (4, .int tg), (5, .int mi)] → va_P D vwCl [hc ah a1 a2 a3, ac cI a1 2001 o1, ac cI a2 2001 o2, ac cI a3 2001 o3] H → va_D A [hc ah a1 a2 a3, ac cI a1 2001 o1, ac cI a2 2001 o2, ac cI a3 2001 o3] → va_S A s.heap H locs → W p l e (RM 3 63) s m args below meth c H locs 0 0 Q (F0 m 6 ls []) := by
    clear hl hP hD hS
    intro n
    induction n with
    | zero =>
      intro tg mi  hm
      exact absurd hm (Nat.not_lt_zero _)
    | succ n ih =>
      intro tg mi  hm hr ls H locs hl hP hD hS
      refine lv_iload hx hb dX1_findEnd_6 (lv_at hl 5 rfl) ?_
      refine lv_iload_n hx hb dX1_findEnd_8 rfl (lv_at hl 1 rfl) ?_
      refine lv_icmp_gt (tgt := 54) hx hb dX1_findEnd_9 (by decide) (fun c1 => ?_) (fun c1 => ?_)
      · refine lv_bipush (v := (-6)) hx hb dX1_findEnd_54 (by decide) ?_
        exact hend _ _ _ _ _ (by rw [← hr, lr_X1_findEnd_6, if_pos c1]) hP hS dX1_findEnd_56
      · refine lv_aload_n hx hb dX1_findEnd_12 rfl (lv_at hl 0 rfl) ?_
        refine lv_iload hx hb dX1_findEnd_13 (lv_at hl 5 rfl) ?_
        refine go_i (ws' := [hc ah a1 a2 a3, ac cI a1 2001 o1, ac cI a2 2001 o2, ac cI a3 2001 o3]) C (rn_V (As := [.int mi]) (rest := []) C (c_X1_otherAt l D cI ah a1 a2 a3 o1 o2 o3 mi H.size) ck_X1_otherAt wd_2_81 wd_2_82 wd_2_92 ⟨Nat.le_of_ble_eq_true rfl, Nat.le_of_ble_eq_true rfl⟩ ⟨Nat.le_refl _, Nat.le_refl _⟩ (ci := 1) (q0 := 0) rfl rfl hP hD hS [0, 1, 2, 3] rfl rfl hl rfl (Nat.le_of_ble_eq_true rfl) dX1_findEnd_15) hP hD hS [0, 1, 2, 3] rfl rfl rfl (fun H locs hP hD hS => ?_)
        refine lv_aload_n hx hb dX1_findEnd_18 rfl (lv_at hl 0 rfl) ?_
        refine lv_iload hx hb dX1_findEnd_19 (lv_at hl 5 rfl) ?_
        refine go_i (ws' := [hc ah a1 a2 a3, ac cI a1 2001 o1, ac cI a2 2001 o2, ac cI a3 2001 o3]) C (rn_V (As := [.int mi]) (rest := [.int (r_X1_otherAt o2 mi)]) C (c_X1_oneAt l D cI ah a1 a2 a3 o1 o2 o3 mi H.size) ck_X1_oneAt wd_2_77 wd_2_78 wd_2_93 ⟨Nat.le_of_ble_eq_true rfl, Nat.le_of_ble_eq_true rfl⟩ ⟨Nat.le_refl _, Nat.le_refl _⟩ (ci := 1) (q0 := 0) rfl rfl hP hD hS [0, 1, 2, 3] rfl rfl hl rfl (Nat.le_of_ble_eq_true rfl) dX1_findEnd_21) hP hD hS [0, 1, 2, 3] rfl rfl rfl (fun H locs hP hD hS => ?_)
        refine lv_isub hx hb dX1_findEnd_24 ?_
        refine lv_iload_n hx hb dX1_findEnd_25 rfl (lv_at hl 2 rfl) ?_
        have j37 : ∀ (ls : Array Slot) (H : Heap) (locs : List Loc), lv_has ls 6 [(0, .ref ah), (1, .int mo), (2, .int to), (3, .int hd), (4, .int tg), (5, .int mi)] → va_P D vwCl [hc ah a1 a2 a3, ac cI a1 2001 o1, ac cI a2 2001 o2, ac cI a3 2001 o3] H → va_D A [hc ah a1 a2 a3, ac cI a1 2001 o1, ac cI a2 2001 o2, ac cI a3 2001 o3] → va_S A s.heap H locs → W p l e (RM 3 63) s m args below meth c H locs 0 0 Q (F0 m 37 ls [.int (mg_X1_findEnd_26 o1 o2 to tg mi)]) := by
          intro ls H locs hl hP hD hS
          refine lv_istore (lv' := [(4, .int (mg_X1_findEnd_26 o1 o2 to tg mi)), (0, .ref ah), (1, .int mo), (2, .int to), (3, .int hd), (5, .int mi)]) hx hb dX1_findEnd_37 hl (by decide) rfl (fun ls hl => ?_)
          refine lv_iload hx hb dX1_findEnd_39 (lv_at hl 0 rfl) ?_
          refine lv_iload_n hx hb dX1_findEnd_41 rfl (lv_at hl 4 rfl) ?_
          refine lv_icmp_lt (tgt := 48) hx hb dX1_findEnd_42 (by decide) (fun c3 => ?_) (fun c3 => ?_)
          · refine lv_iinc (v := (mi + 1)) (lv' := [(5, .int (mi + 1)), (4, .int (mg_X1_findEnd_26 o1 o2 to tg mi)), (0, .ref ah), (1, .int mo), (2, .int to), (3, .int hd)]) hx hb dX1_findEnd_48 hl (k := 5) rfl rfl (by decide) rfl (fun ls hl => ?_)
            refine lv_goto (tgt := 6) hx hb dX1_findEnd_51 (by decide) ?_
            exact ih (mg_X1_findEnd_26 o1 o2 to tg mi) (mi + 1)  (cnt_lt hmo c1 hm) (by rw [← hr, lr_X1_findEnd_6, if_neg c1, if_pos c3]) ls H locs (lv_sub hl [2, 3, 4, 5, 1, 0] rfl) hP hD hS
          · refine lv_iload hx hb dX1_findEnd_45 (lv_at hl 5 rfl) ?_
            exact hend _ _ _ _ _ (by rw [← hr, lr_X1_findEnd_6, if_neg c1, if_neg c3]) hP hS dX1_findEnd_47
        refine lv_icmp_gt (tgt := 36) hx hb dX1_findEnd_26 (by decide) (fun c2 => ?_) (fun c2 => ?_)
        · refine lv_iconst (v := 0) hx hb dX1_findEnd_36 (by decide) ?_
          have e_mg_X1_findEnd_26 : (mg_X1_findEnd_26 o1 o2 to tg mi) = 0 := by rw [mg_X1_findEnd_26, if_pos c2]
          have jj := j37
          rw [e_mg_X1_findEnd_26] at jj
          exact jj ls H locs (lv_sub hl [0, 1, 2, 3, 4, 5] rfl) hP hD hS
        · refine lv_iload hx hb dX1_findEnd_29 (lv_at hl 4 rfl) ?_
          refine lv_iconst (v := 1) hx hb dX1_findEnd_31 (by decide) ?_
          refine lv_iadd hx hb dX1_findEnd_32 ?_
          refine lv_goto (tgt := 37) hx hb dX1_findEnd_33 (by decide) ?_
          have e_mg_X1_findEnd_26 : (mg_X1_findEnd_26 o1 o2 to tg mi) = (tg + 1) := by rw [mg_X1_findEnd_26, if_neg c2]
          have jj := j37
          rw [e_mg_X1_findEnd_26] at jj
          exact jj ls H locs (lv_sub hl [0, 1, 2, 3, 4, 5] rfl) hP hD hS
  exact lp6 (fu ((Int32.toInt mo).toNat + 1)) 0 1  (by rw [fu_eq]; have e1 : (1 : Int32).toInt = 1 := rfl; omega) (by rw [← hr, r_X1_findEnd]) ls H locs (lv_sub hl [2, 3, 4, 5, 1, 0] rfl) hP hD hS
def q_X1_note_o1 (o1 : Nat → Int32) (L : Nat → Int32) : Nat → Int32 := (if (r_X1_holds (L 2)) = 0 then o1 else (upd o1 (Int32.toNatClampNeg (L 2)) (L 3)))
def q_X1_note_o2 (o2 : Nat → Int32) (L : Nat → Int32) (R : Nat → Int32) : Nat → Int32 := (if (r_X1_holds (L 2)) = 0 then o2 else (upd o2 (Int32.toNatClampNeg (L 2)) (r_X2_otherGauge L R)))
def q_X1_note_o3 (o3 : Nat → Int32) (L : Nat → Int32) (G : Nat → Int32) (I : Nat → Int32) : Nat → Int32 := (if (r_X1_holds (L 2)) = 0 then o3 else (upd o3 (Int32.toNatClampNeg (L 2)) (r_X2_vialsWithIce G I)))
theorem ck_X1_note : CK yX1_note cX1_note 4 none 2 := ⟨wd_1_236, wd_1_6, by decide, by decide, by decide +kernel⟩
set_option maxHeartbeats 4000000 in
set_option maxRecDepth 100000 in
theorem c_X1_note (l : Launch) (D : va_G) (cI : ClassId) (ah : Nat) (a1 : Nat) (a2 : Nat) (a3 : Nat) (o1 : Nat → Int32) (o2 : Nat → Int32) (o3 : Nat → Int32) (al : Nat) (ag : Nat) (ai : Nat) (L : Nat → Int32) (G : Nat → Int32) (I : Nat → Int32) (ar : Nat) (av : Nat) (R : Nat → Int32) : MV l D cI yX1_note cX1_note 4 4 85 [.ref ah, .ref al, .ref ar] [hc ah a1 a2 a3, ac cI a1 2001 o1, ac cI a2 2001 o2, ac cI a3 2001 o3, lc al ag ai L, gc ag G, gc ai I, rc ar av, ac cI av 11 R] [hc ah a1 a2 a3, ac cI a1 2001 (q_X1_note_o1 o1 L), ac cI a2 2001 (q_X1_note_o2 o2 L R), ac cI a3 2001 (q_X1_note_o3 o3 L G I), lc al ag ai L, gc ag G, gc ai I, rc ar av, ac cI av 11 R] := by
  generalize ho_o1 : (q_X1_note_o1 o1 L) = o_o1
  generalize ho_o2 : (q_X1_note_o2 o2 L R) = o_o2
  generalize ho_o3 : (q_X1_note_o3 o3 L G I) = o_o3
  refine MV.mk (own := RX1) rfl (by decide) (Nat.le_of_ble_eq_true rfl) ?_
  intro p e s m args below meth c A Q C hD hend H locs ls hP hS hl
  have hx := C.1.1
  have hb := C.1.2.1
  have hl : lv_has ls 4 [(0, .ref ah), (1, .ref al), (2, .ref ar)] := hl
  refine lv_aload_n hx hb dX1_note_0 rfl (lv_at hl 1 rfl) ?_
  refine kget (v := .int (L 2)) C hP igX2 rfl 2 (by decide) wd_1_80 4 rfl rfl dX1_note_1 ?_
  refine lv_istore_n (lv' := [(3, .int (L 2)), (0, .ref ah), (1, .ref al), (2, .ref ar)]) hx hb dX1_note_4 rfl hl (by decide) rfl (fun ls hl => ?_)
  refine lv_iload_n hx hb dX1_note_5 rfl (lv_at hl 0 rfl) ?_
  refine go_i (ws' := [hc ah a1 a2 a3, ac cI a1 2001 o1, ac cI a2 2001 o2, ac cI a3 2001 o3, lc al ag ai L, gc ag G, gc ai I, rc ar av, ac cI av 11 R]) C (rn_S (As := [.int (L 2)]) (rest := []) C (c_X1_holds l D cI (L 2) H.size) ck_X1_holds wd_1_238 wd_1_237 ⟨Nat.le_of_ble_eq_true rfl, Nat.le_of_ble_eq_true rfl⟩ ⟨Nat.le_refl _, Nat.le_refl _⟩ hP hD hS [] rfl rfl hl rfl (Nat.le_of_ble_eq_true rfl) dX1_note_6) hP hD hS [] rfl rfl rfl (fun H locs hP hD hS => ?_)
  refine lv_if_eq (tgt := 43) hx hb dX1_note_9 (by decide) (fun c1 => ?_) (fun c1 => ?_)
  · exact hend _ _ _ _ (by rw [← ho_o1, q_X1_note_o1, if_pos c1, ← ho_o2, q_X1_note_o2, if_pos c1, ← ho_o3, q_X1_note_o3, if_pos c1]; exact hP) hS dX1_note_43
  · refine lv_aload_n hx hb dX1_note_12 rfl (lv_at hl 1 rfl) ?_
    refine kget (v := .ref a1) C hP igX1 rfl 0 (by decide) wd_1_110 0 rfl rfl dX1_note_13 ?_
    refine lv_iload_n hx hb dX1_note_16 rfl (lv_at hl 0 rfl) ?_
    refine lv_aload_n hx hb dX1_note_17 rfl (lv_at hl 2 rfl) ?_
    refine kget (v := .int (L 3)) C hP igX2 rfl 3 (by decide) wd_1_83 4 rfl rfl dX1_note_18 ?_
    refine kast (ws' := [hc ah a1 a2 a3, ac cI a1 2001 (upd o1 (Int32.toNatClampNeg (L 2)) (L 3)), ac cI a2 2001 o2, ac cI a3 2001 o3, lc al ag ai L, gc ag G, gc ai I, rc ar av, ac cI av 11 R]) C hP hD hS 1 rfl (in_holds c1) (k := (Int32.toNatClampNeg (L 2))) rfl rfl dX1_note_21 (fun H locs hP hD hS => ?_)
    refine lv_aload_n hx hb dX1_note_22 rfl (lv_at hl 1 rfl) ?_
    refine kget (v := .ref a2) C hP igX1 rfl 1 (by decide) wd_1_111 0 rfl rfl dX1_note_23 ?_
    refine lv_iload_n hx hb dX1_note_26 rfl (lv_at hl 0 rfl) ?_
    refine lv_aload_n hx hb dX1_note_27 rfl (lv_at hl 2 rfl) ?_
    refine lv_aload_n hx hb dX1_note_28 rfl (lv_at hl 3 rfl) ?_
    refine go_i (ws' := [hc ah a1 a2 a3, ac cI a1 2001 (upd o1 (Int32.toNatClampNeg (L 2)) (L 3)), ac cI a2 2001 o2, ac cI a3 2001 o3, lc al ag ai L, gc ag G, gc ai I, rc ar av, ac cI av 11 R]) C (rn_V (As := [.ref ar]) (rest := [.int (L 2), .ref a2]) C (c_X2_otherGauge l D cI al ag ai L ar av R H.size) ck_X2_otherGauge wd_2_2 wd_2_3 wd_2_1 ⟨Nat.le_of_ble_eq_true rfl, Nat.le_of_ble_eq_true rfl⟩ ⟨Nat.le_refl _, Nat.le_refl _⟩ (ci := 2) (q0 := 4) rfl rfl hP hD hS [4, 7, 8] rfl rfl hl rfl (Nat.le_of_ble_eq_true rfl) dX1_note_29) hP hD hS [4, 7, 8] rfl rfl rfl (fun H locs hP hD hS => ?_)
    refine kast (ws' := [hc ah a1 a2 a3, ac cI a1 2001 (upd o1 (Int32.toNatClampNeg (L 2)) (L 3)), ac cI a2 2001 (upd o2 (Int32.toNatClampNeg (L 2)) (r_X2_otherGauge L R)), ac cI a3 2001 o3, lc al ag ai L, gc ag G, gc ai I, rc ar av, ac cI av 11 R]) C hP hD hS 2 rfl (in_holds c1) (k := (Int32.toNatClampNeg (L 2))) rfl rfl dX1_note_32 (fun H locs hP hD hS => ?_)
    refine lv_aload_n hx hb dX1_note_33 rfl (lv_at hl 1 rfl) ?_
    refine kget (v := .ref a3) C hP igX1 rfl 2 (by decide) wd_1_112 0 rfl rfl dX1_note_34 ?_
    refine lv_iload_n hx hb dX1_note_37 rfl (lv_at hl 0 rfl) ?_
    refine lv_aload_n hx hb dX1_note_38 rfl (lv_at hl 2 rfl) ?_
    refine go_i (ws' := [hc ah a1 a2 a3, ac cI a1 2001 (upd o1 (Int32.toNatClampNeg (L 2)) (L 3)), ac cI a2 2001 (upd o2 (Int32.toNatClampNeg (L 2)) (r_X2_otherGauge L R)), ac cI a3 2001 o3, lc al ag ai L, gc ag G, gc ai I, rc ar av, ac cI av 11 R]) C (rn_V (As := []) (rest := [.int (L 2), .ref a3]) C (c_X2_vialsWithIce l D cI al ag ai L G I H.size) ck_X2_vialsWithIce wd_2_7 wd_2_8 wd_2_6 ⟨Nat.le_of_ble_eq_true rfl, Nat.le_of_ble_eq_true rfl⟩ ⟨Nat.le_refl _, Nat.le_refl _⟩ (ci := 2) (q0 := 4) rfl rfl hP hD hS [4, 5, 6] rfl rfl hl rfl (Nat.le_of_ble_eq_true rfl) dX1_note_39) hP hD hS [4, 5, 6] rfl rfl rfl (fun H locs hP hD hS => ?_)
    refine kast (ws' := [hc ah a1 a2 a3, ac cI a1 2001 (upd o1 (Int32.toNatClampNeg (L 2)) (L 3)), ac cI a2 2001 (upd o2 (Int32.toNatClampNeg (L 2)) (r_X2_otherGauge L R)), ac cI a3 2001 (upd o3 (Int32.toNatClampNeg (L 2)) (r_X2_vialsWithIce G I)), lc al ag ai L, gc ag G, gc ai I, rc ar av, ac cI av 11 R]) C hP hD hS 3 rfl (in_holds c1) (k := (Int32.toNatClampNeg (L 2))) rfl rfl dX1_note_42 (fun H locs hP hD hS => ?_)
    exact hend _ _ _ _ (by rw [← ho_o1, q_X1_note_o1, if_neg c1, ← ho_o2, q_X1_note_o2, if_neg c1, ← ho_o3, q_X1_note_o3, if_neg c1]; exact hP) hS dX1_note_43
