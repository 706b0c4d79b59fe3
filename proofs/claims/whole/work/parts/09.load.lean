def mg_X2_vialsWithIce_7 (G : Nat → Int32) : Int32 := (if (G 2) ≤ 0 then 0 else (G 0))
def mg_X2_vialsWithIce_28 (I : Nat → Int32) : Int32 := (if (I 2) ≤ 0 then 0 else (I 0))
def r_X2_vialsWithIce (G : Nat → Int32) (I : Nat → Int32) : Int32 := ((mg_X2_vialsWithIce_7 G) + (mg_X2_vialsWithIce_28 I))
theorem ck_X2_vialsWithIce : CK yX2_vialsWithIce cX2_vialsWithIce 1 (some .int) 0 := ⟨wd_2_9, wd_1_4, by decide, by decide, by decide +kernel⟩
set_option maxHeartbeats 4000000 in
set_option maxRecDepth 100000 in
theorem c_X2_vialsWithIce (l : Launch) (D : va_G) (cI : ClassId) (al : Nat) (ag : Nat) (ai : Nat) (L : Nat → Int32) (G : Nat → Int32) (I : Nat → Int32) : MI l D cI yX2_vialsWithIce cX2_vialsWithIce 1 (some .int) 0 0 [.ref al] [lc al ag ai L, gc ag G, gc ai I] (r_X2_vialsWithIce G I) [lc al ag ai L, gc ag G, gc ai I] := by
  generalize hr : (r_X2_vialsWithIce G I) = r
  refine MI.mk (own := RX2) rfl (by decide) rfl (Nat.le_of_ble_eq_true rfl) ?_
  intro p e s m args below meth c A Q C hD hend H locs ls hP hS hl
  have hx := C.1.1
  have hb := C.1.2.1
  have hl : lv_has ls 1 [(0, .ref al)] := hl
  refine lv_aload_n hx hb dX2_vialsWithIce_0 rfl (lv_at hl 0 rfl) ?_
  refine kget (v := .ref ag) C hP igX2 rfl 0 (by decide) wd_1_76 0 rfl rfl dX2_vialsWithIce_1 ?_
  refine kget (v := .int (G 2)) C hP igX0 rfl 2 (by decide) wd_1_50 1 rfl rfl dX2_vialsWithIce_4 ?_
  have j21 : ∀ (ls : Array Slot) (H : Heap) (locs : List Loc), lv_has ls 1 [(0, .ref al)] → va_P D vwCl [lc al ag ai L, gc ag G, gc ai I] H → va_D A [lc al ag ai L, gc ag G, gc ai I] → va_S A s.heap H locs → W p l e (RM 0 0) s m args below meth c H locs 0 0 Q (F0 m 21 ls [.int (mg_X2_vialsWithIce_7 G)]) := by
    intro ls H locs hl hP hD hS
    refine lv_aload_n hx hb dX2_vialsWithIce_21 rfl (lv_at hl 0 rfl) ?_
    refine kget (v := .ref ai) C hP igX2 rfl 1 (by decide) wd_1_78 0 rfl rfl dX2_vialsWithIce_22 ?_
    refine kget (v := .int (I 2)) C hP igX0 rfl 2 (by decide) wd_1_50 2 rfl rfl dX2_vialsWithIce_25 ?_
    have j42 : ∀ (ls : Array Slot) (H : Heap) (locs : List Loc), lv_has ls 1 [(0, .ref al)] → va_P D vwCl [lc al ag ai L, gc ag G, gc ai I] H → va_D A [lc al ag ai L, gc ag G, gc ai I] → va_S A s.heap H locs → W p l e (RM 0 0) s m args below meth c H locs 0 0 Q (F0 m 42 ls [.int (mg_X2_vialsWithIce_28 I), .int (mg_X2_vialsWithIce_7 G)]) := by
      intro ls H locs hl hP hD hS
      refine lv_iadd hx hb dX2_vialsWithIce_42 ?_
      exact hend _ _ _ _ _ (by rw [← hr, r_X2_vialsWithIce]) hP hS dX2_vialsWithIce_43
    refine lv_if_le (tgt := 41) hx hb dX2_vialsWithIce_28 (by decide) (fun c2 => ?_) (fun c2 => ?_)
    · refine lv_iconst (v := 0) hx hb dX2_vialsWithIce_41 (by decide) ?_
      have e_mg_X2_vialsWithIce_28 : (mg_X2_vialsWithIce_28 I) = 0 := by rw [mg_X2_vialsWithIce_28, if_pos c2]
      have jj := j42
      rw [e_mg_X2_vialsWithIce_28] at jj
      exact jj ls H locs (lv_sub hl [0] rfl) hP hD hS
    · refine lv_aload_n hx hb dX2_vialsWithIce_31 rfl (lv_at hl 0 rfl) ?_
      refine kget (v := .ref ai) C hP igX2 rfl 1 (by decide) wd_1_78 0 rfl rfl dX2_vialsWithIce_32 ?_
      refine kget (v := .int (I 0)) C hP igX0 rfl 0 (by decide) wd_1_46 2 rfl rfl dX2_vialsWithIce_35 ?_
      refine lv_goto (tgt := 42) hx hb dX2_vialsWithIce_38 (by decide) ?_
      have e_mg_X2_vialsWithIce_28 : (mg_X2_vialsWithIce_28 I) = (I 0) := by rw [mg_X2_vialsWithIce_28, if_neg c2]
      have jj := j42
      rw [e_mg_X2_vialsWithIce_28] at jj
      exact jj ls H locs (lv_sub hl [0] rfl) hP hD hS
  refine lv_if_le (tgt := 20) hx hb dX2_vialsWithIce_7 (by decide) (fun c1 => ?_) (fun c1 => ?_)
  · refine lv_iconst (v := 0) hx hb dX2_vialsWithIce_20 (by decide) ?_
    have e_mg_X2_vialsWithIce_7 : (mg_X2_vialsWithIce_7 G) = 0 := by rw [mg_X2_vialsWithIce_7, if_pos c1]
    have jj := j21
    rw [e_mg_X2_vialsWithIce_7] at jj
    exact jj ls H locs (lv_sub hl [0] rfl) hP hD hS
  · refine lv_aload_n hx hb dX2_vialsWithIce_10 rfl (lv_at hl 0 rfl) ?_
    refine kget (v := .ref ag) C hP igX2 rfl 0 (by decide) wd_1_76 0 rfl rfl dX2_vialsWithIce_11 ?_
    refine kget (v := .int (G 0)) C hP igX0 rfl 0 (by decide) wd_1_46 1 rfl rfl dX2_vialsWithIce_14 ?_
    refine lv_goto (tgt := 21) hx hb dX2_vialsWithIce_17 (by decide) ?_
    have e_mg_X2_vialsWithIce_7 : (mg_X2_vialsWithIce_7 G) = (G 0) := by rw [mg_X2_vialsWithIce_7, if_neg c1]
    have jj := j21
    rw [e_mg_X2_vialsWithIce_7] at jj
    exact jj ls H locs (lv_sub hl [0] rfl) hP hD hS
def mg_X2_fallenVials_9 (G : Nat → Int32) : Int32 := (if (G 4) = (-6) then 0 else (G 0))
def mg_X2_fallenVials_32 (I : Nat → Int32) : Int32 := (if (I 4) = (-6) then 0 else (I 0))
def r_X2_fallenVials (G : Nat → Int32) (I : Nat → Int32) : Int32 := ((mg_X2_fallenVials_9 G) + (mg_X2_fallenVials_32 I))
theorem ck_X2_fallenVials : CK yX2_fallenVials cX2_fallenVials 1 (some .int) 0 := ⟨wd_2_70, wd_1_4, by decide, by decide, by decide +kernel⟩
set_option maxHeartbeats 4000000 in
set_option maxRecDepth 100000 in
theorem c_X2_fallenVials (l : Launch) (D : va_G) (cI : ClassId) (al : Nat) (ag : Nat) (ai : Nat) (L : Nat → Int32) (G : Nat → Int32) (I : Nat → Int32) : MI l D cI yX2_fallenVials cX2_fallenVials 1 (some .int) 0 0 [.ref al] [lc al ag ai L, gc ag G, gc ai I] (r_X2_fallenVials G I) [lc al ag ai L, gc ag G, gc ai I] := by
  generalize hr : (r_X2_fallenVials G I) = r
  refine MI.mk (own := RX2) rfl (by decide) rfl (Nat.le_of_ble_eq_true rfl) ?_
  intro p e s m args below meth c A Q C hD hend H locs ls hP hS hl
  have hx := C.1.1
  have hb := C.1.2.1
  have hl : lv_has ls 1 [(0, .ref al)] := hl
  refine lv_aload_n hx hb dX2_fallenVials_0 rfl (lv_at hl 0 rfl) ?_
  refine kget (v := .ref ag) C hP igX2 rfl 0 (by decide) wd_1_76 0 rfl rfl dX2_fallenVials_1 ?_
  refine kget (v := .int (G 4)) C hP igX0 rfl 4 (by decide) wd_1_54 1 rfl rfl dX2_fallenVials_4 ?_
  refine lv_bipush (v := (-6)) hx hb dX2_fallenVials_7 (by decide) ?_
  have j23 : ∀ (ls : Array Slot) (H : Heap) (locs : List Loc), lv_has ls 1 [(0, .ref al)] → va_P D vwCl [lc al ag ai L, gc ag G, gc ai I] H → va_D A [lc al ag ai L, gc ag G, gc ai I] → va_S A s.heap H locs → W p l e (RM 0 0) s m args below meth c H locs 0 0 Q (F0 m 23 ls [.int (mg_X2_fallenVials_9 G)]) := by
    intro ls H locs hl hP hD hS
    refine lv_aload_n hx hb dX2_fallenVials_23 rfl (lv_at hl 0 rfl) ?_
    refine kget (v := .ref ai) C hP igX2 rfl 1 (by decide) wd_1_78 0 rfl rfl dX2_fallenVials_24 ?_
    refine kget (v := .int (I 4)) C hP igX0 rfl 4 (by decide) wd_1_54 2 rfl rfl dX2_fallenVials_27 ?_
    refine lv_bipush (v := (-6)) hx hb dX2_fallenVials_30 (by decide) ?_
    have j46 : ∀ (ls : Array Slot) (H : Heap) (locs : List Loc), lv_has ls 1 [(0, .ref al)] → va_P D vwCl [lc al ag ai L, gc ag G, gc ai I] H → va_D A [lc al ag ai L, gc ag G, gc ai I] → va_S A s.heap H locs → W p l e (RM 0 0) s m args below meth c H locs 0 0 Q (F0 m 46 ls [.int (mg_X2_fallenVials_32 I), .int (mg_X2_fallenVials_9 G)]) := by
      intro ls H locs hl hP hD hS
      refine lv_iadd hx hb dX2_fallenVials_46 ?_
      exact hend _ _ _ _ _ (by rw [← hr, r_X2_fallenVials]) hP hS dX2_fallenVials_47
    refine lv_icmp_eq (tgt := 45) hx hb dX2_fallenVials_32 (by decide) (fun c2 => ?_) (fun c2 => ?_)
    · refine lv_iconst (v := 0) hx hb dX2_fallenVials_45 (by decide) ?_
      have e_mg_X2_fallenVials_32 : (mg_X2_fallenVials_32 I) = 0 := by rw [mg_X2_fallenVials_32, if_pos c2]
      have jj := j46
      rw [e_mg_X2_fallenVials_32] at jj
      exact jj ls H locs (lv_sub hl [0] rfl) hP hD hS
    · refine lv_aload_n hx hb dX2_fallenVials_35 rfl (lv_at hl 0 rfl) ?_
      refine kget (v := .ref ai) C hP igX2 rfl 1 (by decide) wd_1_78 0 rfl rfl dX2_fallenVials_36 ?_
      refine kget (v := .int (I 0)) C hP igX0 rfl 0 (by decide) wd_1_46 2 rfl rfl dX2_fallenVials_39 ?_
      refine lv_goto (tgt := 46) hx hb dX2_fallenVials_42 (by decide) ?_
      have e_mg_X2_fallenVials_32 : (mg_X2_fallenVials_32 I) = (I 0) := by rw [mg_X2_fallenVials_32, if_neg c2]
      have jj := j46
      rw [e_mg_X2_fallenVials_32] at jj
      exact jj ls H locs (lv_sub hl [0] rfl) hP hD hS
  refine lv_icmp_eq (tgt := 22) hx hb dX2_fallenVials_9 (by decide) (fun c1 => ?_) (fun c1 => ?_)
  · refine lv_iconst (v := 0) hx hb dX2_fallenVials_22 (by decide) ?_
    have e_mg_X2_fallenVials_9 : (mg_X2_fallenVials_9 G) = 0 := by rw [mg_X2_fallenVials_9, if_pos c1]
    have jj := j23
    rw [e_mg_X2_fallenVials_9] at jj
    exact jj ls H locs (lv_sub hl [0] rfl) hP hD hS
  · refine lv_aload_n hx hb dX2_fallenVials_12 rfl (lv_at hl 0 rfl) ?_
    refine kget (v := .ref ag) C hP igX2 rfl 0 (by decide) wd_1_76 0 rfl rfl dX2_fallenVials_13 ?_
    refine kget (v := .int (G 0)) C hP igX0 rfl 0 (by decide) wd_1_46 1 rfl rfl dX2_fallenVials_16 ?_
    refine lv_goto (tgt := 23) hx hb dX2_fallenVials_19 (by decide) ?_
    have e_mg_X2_fallenVials_9 : (mg_X2_fallenVials_9 G) = (G 0) := by rw [mg_X2_fallenVials_9, if_neg c1]
    have jj := j23
    rw [e_mg_X2_fallenVials_9] at jj
    exact jj ls H locs (lv_sub hl [0] rfl) hP hD hS
def mg_X2_firstToFall_9 (G : Nat → Int32) (I : Nat → Int32) : Int32 := (if (I 4) = (-6) then 0 else (if (G 4) = (-6) then 1 else (if (G 4) ≤ (I 4) then 0 else 1)))
def r_X2_firstToFall (ag : Nat) (ai : Nat) (G : Nat → Int32) (I : Nat → Int32) : Nat := (if (mg_X2_firstToFall_9 G I) = 0 then ag else ai)
theorem ck_X2_firstToFall : CK yX2_firstToFall cX2_firstToFall 2 (some (.object "ColdDryer$Group")) 0 := ⟨wd_2_113, wd_1_4, by decide, by decide, by decide +kernel⟩
set_option maxHeartbeats 4000000 in
set_option maxRecDepth 100000 in
theorem c_X2_firstToFall (l : Launch) (D : va_G) (cI : ClassId) (al : Nat) (ag : Nat) (ai : Nat) (L : Nat → Int32) (G : Nat → Int32) (I : Nat → Int32) : MR l D cI yX2_firstToFall cX2_firstToFall 2 (some (.object "ColdDryer$Group")) 0 0 [.ref al] [lc al ag ai L, gc ag G, gc ai I] (r_X2_firstToFall ag ai G I) [lc al ag ai L, gc ag G, gc ai I] := by
  generalize hr : (r_X2_firstToFall ag ai G I) = r
  refine MR.mk (own := RX2) rfl (by decide) (Nat.le_of_ble_eq_true rfl) ?_
  intro p e s m args below meth c A Q C hD hend H locs ls hP hS hl
  have hx := C.1.1
  have hb := C.1.2.1
  have hl : lv_has ls 2 [(0, .ref al)] := hl
  refine lv_aload_n hx hb dX2_firstToFall_0 rfl (lv_at hl 0 rfl) ?_
  refine kget (v := .ref ai) C hP igX2 rfl 1 (by decide) wd_1_78 0 rfl rfl dX2_firstToFall_1 ?_
  refine kget (v := .int (I 4)) C hP igX0 rfl 4 (by decide) wd_1_54 2 rfl rfl dX2_firstToFall_4 ?_
  refine lv_bipush (v := (-6)) hx hb dX2_firstToFall_7 (by decide) ?_
  have j46 : ∀ (ls : Array Slot) (H : Heap) (locs : List Loc), lv_has ls 2 [(0, .ref al)] → va_P D vwCl [lc al ag ai L, gc ag G, gc ai I] H → va_D A [lc al ag ai L, gc ag G, gc ai I] → va_S A s.heap H locs → W p l e (RM 0 0) s m args below meth c H locs 0 0 Q (F0 m 46 ls [.int (mg_X2_firstToFall_9 G I)]) := by
    intro ls H locs hl hP hD hS
    refine lv_istore_n (lv' := [(1, .int (mg_X2_firstToFall_9 G I)), (0, .ref al)]) hx hb dX2_firstToFall_46 rfl hl (by decide) rfl (fun ls hl => ?_)
    refine lv_iload_n hx hb dX2_firstToFall_47 rfl (lv_at hl 0 rfl) ?_
    refine lv_if_eq (tgt := 58) hx hb dX2_firstToFall_48 (by decide) (fun c4 => ?_) (fun c4 => ?_)
    · refine lv_aload_n hx hb dX2_firstToFall_58 rfl (lv_at hl 1 rfl) ?_
      refine kget (v := .ref ag) C hP igX2 rfl 0 (by decide) wd_1_76 0 rfl rfl dX2_firstToFall_59 ?_
      exact hend _ _ _ _ _ (by rw [← hr, r_X2_firstToFall, if_pos c4]) hP hS dX2_firstToFall_62
    · refine lv_aload_n hx hb dX2_firstToFall_51 rfl (lv_at hl 1 rfl) ?_
      refine kget (v := .ref ai) C hP igX2 rfl 1 (by decide) wd_1_78 0 rfl rfl dX2_firstToFall_52 ?_
      refine lv_goto (tgt := 62) hx hb dX2_firstToFall_55 (by decide) ?_
      exact hend _ _ _ _ _ (by rw [← hr, r_X2_firstToFall, if_neg c4]) hP hS dX2_firstToFall_62
  refine lv_icmp_eq (tgt := 45) hx hb dX2_firstToFall_9 (by decide) (fun c1 => ?_) (fun c1 => ?_)
  · refine lv_iconst (v := 0) hx hb dX2_firstToFall_45 (by decide) ?_
    have e_mg_X2_firstToFall_9 : (mg_X2_firstToFall_9 G I) = 0 := by rw [mg_X2_firstToFall_9, if_pos c1]
    have jj := j46
    rw [e_mg_X2_firstToFall_9] at jj
    exact jj ls H locs (lv_sub hl [0] rfl) hP hD hS
  · refine lv_aload_n hx hb dX2_firstToFall_12 rfl (lv_at hl 0 rfl) ?_
    refine kget (v := .ref ag) C hP igX2 rfl 0 (by decide) wd_1_76 0 rfl rfl dX2_firstToFall_13 ?_
    refine kget (v := .int (G 4)) C hP igX0 rfl 4 (by decide) wd_1_54 1 rfl rfl dX2_firstToFall_16 ?_
    refine lv_bipush (v := (-6)) hx hb dX2_firstToFall_19 (by decide) ?_
    refine lv_icmp_eq (tgt := 41) hx hb dX2_firstToFall_21 (by decide) (fun c2 => ?_) (fun c2 => ?_)
    · refine lv_iconst (v := 1) hx hb dX2_firstToFall_41 (by decide) ?_
      refine lv_goto (tgt := 46) hx hb dX2_firstToFall_42 (by decide) ?_
      have e_mg_X2_firstToFall_9 : (mg_X2_firstToFall_9 G I) = 1 := by rw [mg_X2_firstToFall_9, if_neg c1, if_pos c2]
      have jj := j46
      rw [e_mg_X2_firstToFall_9] at jj
      exact jj ls H locs (lv_sub hl [0] rfl) hP hD hS
    · refine lv_aload_n hx hb dX2_firstToFall_24 rfl (lv_at hl 0 rfl) ?_
      refine kget (v := .ref ai) C hP igX2 rfl 1 (by decide) wd_1_78 0 rfl rfl dX2_firstToFall_25 ?_
      refine kget (v := .int (I 4)) C hP igX0 rfl 4 (by decide) wd_1_54 2 rfl rfl dX2_firstToFall_28 ?_
      refine lv_aload_n hx hb dX2_firstToFall_31 rfl (lv_at hl 0 rfl) ?_
      refine kget (v := .ref ag) C hP igX2 rfl 0 (by decide) wd_1_76 0 rfl rfl dX2_firstToFall_32 ?_
      refine kget (v := .int (G 4)) C hP igX0 rfl 4 (by decide) wd_1_54 1 rfl rfl dX2_firstToFall_35 ?_
      refine lv_icmp_ge (tgt := 45) hx hb dX2_firstToFall_38 (by decide) (fun c3 => ?_) (fun c3 => ?_)
      · refine lv_iconst (v := 0) hx hb dX2_firstToFall_45 (by decide) ?_
        have e_mg_X2_firstToFall_9 : (mg_X2_firstToFall_9 G I) = 0 := by rw [mg_X2_firstToFall_9, if_neg c1, if_neg c2, if_pos c3]
        have jj := j46
        rw [e_mg_X2_firstToFall_9] at jj
        exact jj ls H locs (lv_sub hl [0] rfl) hP hD hS
      · refine lv_iconst (v := 1) hx hb dX2_firstToFall_41 (by decide) ?_
        refine lv_goto (tgt := 46) hx hb dX2_firstToFall_42 (by decide) ?_
        have e_mg_X2_firstToFall_9 : (mg_X2_firstToFall_9 G I) = 1 := by rw [mg_X2_firstToFall_9, if_neg c1, if_neg c2, if_neg c3]
        have jj := j46
        rw [e_mg_X2_firstToFall_9] at jj
        exact jj ls H locs (lv_sub hl [0] rfl) hP hD hS
def r_X2_firstVialToFall (G : Nat → Int32) (I : Nat → Int32) : Int32 := (if (mg_X2_firstToFall_9 G I) = 0 then (if (G 4) = (-6) then (-6) else (G 1)) else (if (I 4) = (-6) then (-6) else (I 1)))
theorem ck_X2_firstVialToFall : CK yX2_firstVialToFall cX2_firstVialToFall 2 (some .int) 0 := ⟨wd_2_109, wd_1_4, by decide, by decide, by decide +kernel⟩
set_option maxHeartbeats 4000000 in
set_option maxRecDepth 100000 in
theorem c_X2_firstVialToFall (l : Launch) (D : va_G) (cI : ClassId) (al : Nat) (ag : Nat) (ai : Nat) (L : Nat → Int32) (G : Nat → Int32) (I : Nat → Int32) : MI l D cI yX2_firstVialToFall cX2_firstVialToFall 2 (some .int) 1 21 [.ref al] [lc al ag ai L, gc ag G, gc ai I] (r_X2_firstVialToFall G I) [lc al ag ai L, gc ag G, gc ai I] := by
  generalize hr : (r_X2_firstVialToFall G I) = r
  refine MI.mk (own := RX2) rfl (by decide) rfl (Nat.le_of_ble_eq_true rfl) ?_
  intro p e s m args below meth c A Q C hD hend H locs ls hP hS hl
  have hx := C.1.1
  have hb := C.1.2.1
  have hl : lv_has ls 2 [(0, .ref al)] := hl
  refine lv_aload_n hx hb dX2_firstVialToFall_0 rfl (lv_at hl 0 rfl) ?_
  refine go_r (ws' := [lc al ag ai L, gc ag G, gc ai I]) C (rn_V (As := []) (rest := []) C (c_X2_firstToFall l D cI al ag ai L G I H.size) ck_X2_firstToFall wd_2_111 wd_2_112 wd_2_110 ⟨Nat.le_of_ble_eq_true rfl, Nat.le_of_ble_eq_true rfl⟩ ⟨Nat.le_refl _, Nat.le_refl _⟩ (ci := 2) (q0 := 0) rfl rfl hP hD hS [0, 1, 2] rfl rfl hl rfl (Nat.le_of_ble_eq_true rfl) dX2_firstVialToFall_1) hP hD hS [0, 1, 2] rfl rfl rfl (fun H locs hP hD hS => ?_)
  by_cases c1 : (mg_X2_firstToFall_9 G I) = 0
  · rw [show (r_X2_firstToFall ag ai G I) = ag from by rw [r_X2_firstToFall, if_pos c1]]
    refine lv_astore_n (lv' := [(1, .ref ag), (0, .ref al)]) hx hb dX2_firstVialToFall_4 rfl hl (by decide) rfl (fun ls hl => ?_)
    refine lv_aload_n hx hb dX2_firstVialToFall_5 rfl (lv_at hl 0 rfl) ?_
    refine kget (v := .int (G 4)) C hP igX0 rfl 4 (by decide) wd_1_54 1 rfl rfl dX2_firstVialToFall_6 ?_
    refine lv_bipush (v := (-6)) hx hb dX2_firstVialToFall_9 (by decide) ?_
    refine lv_icmp_ne (tgt := 19) hx hb dX2_firstVialToFall_11 (by decide) (fun c2 => ?_) (fun c2 => ?_)
    · refine lv_aload_n hx hb dX2_firstVialToFall_19 rfl (lv_at hl 0 rfl) ?_
      refine kget (v := .int (G 1)) C hP igX0 rfl 1 (by decide) wd_1_48 1 rfl rfl dX2_firstVialToFall_20 ?_
      exact hend _ _ _ _ _ (by rw [← hr, r_X2_firstVialToFall, if_pos c1, if_neg c2]) hP hS dX2_firstVialToFall_23
    · refine lv_bipush (v := (-6)) hx hb dX2_firstVialToFall_14 (by decide) ?_
      refine lv_goto (tgt := 23) hx hb dX2_firstVialToFall_16 (by decide) ?_
      exact hend _ _ _ _ _ (by rw [← hr, r_X2_firstVialToFall, if_pos c1, if_pos c2]) hP hS dX2_firstVialToFall_23
  · rw [show (r_X2_firstToFall ag ai G I) = ai from by rw [r_X2_firstToFall, if_neg c1]]
    refine lv_astore_n (lv' := [(1, .ref ai), (0, .ref al)]) hx hb dX2_firstVialToFall_4 rfl hl (by decide) rfl (fun ls hl => ?_)
    refine lv_aload_n hx hb dX2_firstVialToFall_5 rfl (lv_at hl 0 rfl) ?_
    refine kget (v := .int (I 4)) C hP igX0 rfl 4 (by decide) wd_1_54 2 rfl rfl dX2_firstVialToFall_6 ?_
    refine lv_bipush (v := (-6)) hx hb dX2_firstVialToFall_9 (by decide) ?_
    refine lv_icmp_ne (tgt := 19) hx hb dX2_firstVialToFall_11 (by decide) (fun c3 => ?_) (fun c3 => ?_)
    · refine lv_aload_n hx hb dX2_firstVialToFall_19 rfl (lv_at hl 0 rfl) ?_
      refine kget (v := .int (I 1)) C hP igX0 rfl 1 (by decide) wd_1_48 2 rfl rfl dX2_firstVialToFall_20 ?_
      exact hend _ _ _ _ _ (by rw [← hr, r_X2_firstVialToFall, if_neg c1, if_neg c3]) hP hS dX2_firstVialToFall_23
    · refine lv_bipush (v := (-6)) hx hb dX2_firstVialToFall_14 (by decide) ?_
      refine lv_goto (tgt := 23) hx hb dX2_firstVialToFall_16 (by decide) ?_
      exact hend _ _ _ _ _ (by rw [← hr, r_X2_firstVialToFall, if_neg c1, if_pos c3]) hP hS dX2_firstVialToFall_23
def r_X2_pressureBehind (L : Nat → Int32) (R : Nat → Int32) : Int32 := (if ((L 5) - (r_X3_valueOf R 7)) ≤ 0 then ((L 3) - (r_X3_valueOf R 9)) else (if ((L 3) + (r_X4_quotient ((L 5) - (r_X3_valueOf R 7)) (r_X3_valueOf R 8))) < 20000 then ((L 3) + (r_X4_quotient ((L 5) - (r_X3_valueOf R 7)) (r_X3_valueOf R 8))) else 20000))
theorem ck_X2_pressureBehind : CK yX2_pressureBehind cX2_pressureBehind 3 (some .int) 1 := ⟨wd_2_44, wd_1_4, by decide, by decide, by decide +kernel⟩
set_option maxHeartbeats 4000000 in
set_option maxRecDepth 100000 in
theorem c_X2_pressureBehind (l : Launch) (D : va_G) (cI : ClassId) (al : Nat) (ag : Nat) (ai : Nat) (L : Nat → Int32) (ar : Nat) (av : Nat) (R : Nat → Int32) : MI l D cI yX2_pressureBehind cX2_pressureBehind 3 (some .int) 3 63 [.ref al, .ref ar] [lc al ag ai L, rc ar av, ac cI av 11 R] (r_X2_pressureBehind L R) [lc al ag ai L, rc ar av, ac cI av 11 R] := by
  generalize hr : (r_X2_pressureBehind L R) = r
  refine MI.mk (own := RX2) rfl (by decide) rfl (Nat.le_of_ble_eq_true rfl) ?_
  intro p e s m args below meth c A Q C hD hend H locs ls hP hS hl
  have hx := C.1.1
  have hb := C.1.2.1
  have hl : lv_has ls 3 [(0, .ref al), (1, .ref ar)] := hl
  refine lv_aload_n hx hb dX2_pressureBehind_0 rfl (lv_at hl 0 rfl) ?_
  refine kget (v := .int (L 5)) C hP igX2 rfl 5 (by decide) wd_1_87 0 rfl rfl dX2_pressureBehind_1 ?_
  refine lv_aload_n hx hb dX2_pressureBehind_4 rfl (lv_at hl 1 rfl) ?_
  refine lv_bipush (v := 7) hx hb dX2_pressureBehind_5 (by decide) ?_
  refine go_i (ws' := [lc al ag ai L, rc ar av, ac cI av 11 R]) C (rn_V (As := [.int 7]) (rest := [.int (L 5)]) C (c_X3_valueOf l D cI ar av R 7 H.size) ck_X3_valueOf wd_1_183 wd_1_184 wd_1_228 ⟨Nat.le_of_ble_eq_true rfl, Nat.le_of_ble_eq_true rfl⟩ ⟨Nat.le_refl _, Nat.le_refl _⟩ (ci := 3) (q0 := 1) rfl rfl hP hD hS [1, 2] rfl rfl hl rfl (Nat.le_of_ble_eq_true rfl) dX2_pressureBehind_7) hP hD hS [1, 2] rfl rfl rfl (fun H locs hP hD hS => ?_)
  refine lv_isub hx hb dX2_pressureBehind_10 ?_
  refine lv_istore_n (lv' := [(2, .int ((L 5) - (r_X3_valueOf R 7))), (0, .ref al), (1, .ref ar)]) hx hb dX2_pressureBehind_11 rfl hl (by decide) rfl (fun ls hl => ?_)
  refine lv_iload_n hx hb dX2_pressureBehind_12 rfl (lv_at hl 0 rfl) ?_
  refine lv_if_le (tgt := 38) hx hb dX2_pressureBehind_13 (by decide) (fun c1 => ?_) (fun c1 => ?_)
  · refine lv_aload_n hx hb dX2_pressureBehind_38 rfl (lv_at hl 1 rfl) ?_
    refine kget (v := .int (L 3)) C hP igX2 rfl 3 (by decide) wd_1_84 0 rfl rfl dX2_pressureBehind_39 ?_
    refine lv_aload_n hx hb dX2_pressureBehind_42 rfl (lv_at hl 2 rfl) ?_
    refine lv_bipush (v := 9) hx hb dX2_pressureBehind_43 (by decide) ?_
    refine go_i (ws' := [lc al ag ai L, rc ar av, ac cI av 11 R]) C (rn_V (As := [.int 9]) (rest := [.int (L 3)]) C (c_X3_valueOf l D cI ar av R 9 H.size) ck_X3_valueOf wd_1_183 wd_1_184 wd_1_228 ⟨Nat.le_of_ble_eq_true rfl, Nat.le_of_ble_eq_true rfl⟩ ⟨Nat.le_refl _, Nat.le_refl _⟩ (ci := 3) (q0 := 1) rfl rfl hP hD hS [1, 2] rfl rfl hl rfl (Nat.le_of_ble_eq_true rfl) dX2_pressureBehind_45) hP hD hS [1, 2] rfl rfl rfl (fun H locs hP hD hS => ?_)
    refine lv_isub hx hb dX2_pressureBehind_48 ?_
    exact hend _ _ _ _ _ (by rw [← hr, r_X2_pressureBehind, if_pos c1]) hP hS dX2_pressureBehind_49
  · refine lv_sipush (v := 20000) hx hb dX2_pressureBehind_16 (by decide) ?_
    refine lv_aload_n hx hb dX2_pressureBehind_19 rfl (lv_at hl 1 rfl) ?_
    refine kget (v := .int (L 3)) C hP igX2 rfl 3 (by decide) wd_1_84 0 rfl rfl dX2_pressureBehind_20 ?_
    refine lv_iload_n hx hb dX2_pressureBehind_23 rfl (lv_at hl 0 rfl) ?_
    refine lv_aload_n hx hb dX2_pressureBehind_24 rfl (lv_at hl 2 rfl) ?_
    refine lv_bipush (v := 8) hx hb dX2_pressureBehind_25 (by decide) ?_
    refine go_i (ws' := [lc al ag ai L, rc ar av, ac cI av 11 R]) C (rn_V (As := [.int 8]) (rest := [.int ((L 5) - (r_X3_valueOf R 7)), .int (L 3), .int 20000]) C (c_X3_valueOf l D cI ar av R 8 H.size) ck_X3_valueOf wd_1_183 wd_1_184 wd_1_228 ⟨Nat.le_of_ble_eq_true rfl, Nat.le_of_ble_eq_true rfl⟩ ⟨Nat.le_refl _, Nat.le_refl _⟩ (ci := 3) (q0 := 1) rfl rfl hP hD hS [1, 2] rfl rfl hl rfl (Nat.le_of_ble_eq_true rfl) dX2_pressureBehind_27) hP hD hS [1, 2] rfl rfl rfl (fun H locs hP hD hS => ?_)
    refine go_i (ws' := [lc al ag ai L, rc ar av, ac cI av 11 R]) C (rn_N (As := [.int ((L 5) - (r_X3_valueOf R 7)), .int (r_X3_valueOf R 8)]) (rest := [.int (L 3), .int 20000]) C (c_X4_quotient l D cI ((L 5) - (r_X3_valueOf R 7)) (r_X3_valueOf R 8) H.size) ck_X4_quotient wd_1_209 C.2.2.1.2.2.2.2.1 ⟨Nat.le_of_ble_eq_true rfl, Nat.le_of_ble_eq_true rfl⟩ ⟨Nat.le_refl _, Nat.le_refl _⟩ hP hD hS [] rfl rfl hl rfl (Nat.le_of_ble_eq_true rfl) dX2_pressureBehind_30) hP hD hS [] rfl rfl rfl (fun H locs hP hD hS => ?_)
    refine lv_iadd hx hb dX2_pressureBehind_33 ?_
    refine kmin C hl wd_2_45 wd_2_39 wd_1_8 wd_2_40 ⟨by decide, Nat.le_of_ble_eq_true rfl⟩ ⟨Nat.le_refl _, Nat.le_refl _⟩ dX2_pressureBehind_34 ?_
    exact hend _ _ _ _ _ (by rw [← hr, r_X2_pressureBehind, if_neg c1]) hP hS dX2_pressureBehind_37
def r_X2_otherGauge (L : Nat → Int32) (R : Nat → Int32) : Int32 := (((L 3) * (100 + (r_X4_quotient (60 * (L 5)) ((L 5) + (r_X3_valueOf R 10))))) / 100)
theorem ck_X2_otherGauge : CK yX2_otherGauge cX2_otherGauge 3 (some .int) 1 := ⟨wd_2_4, wd_1_4, by decide, by decide, by decide +kernel⟩
set_option maxHeartbeats 4000000 in
set_option maxRecDepth 100000 in
theorem c_X2_otherGauge (l : Launch) (D : va_G) (cI : ClassId) (al : Nat) (ag : Nat) (ai : Nat) (L : Nat → Int32) (ar : Nat) (av : Nat) (R : Nat → Int32) : MI l D cI yX2_otherGauge cX2_otherGauge 3 (some .int) 3 63 [.ref al, .ref ar] [lc al ag ai L, rc ar av, ac cI av 11 R] (r_X2_otherGauge L R) [lc al ag ai L, rc ar av, ac cI av 11 R] := by
  generalize hr : (r_X2_otherGauge L R) = r
  refine MI.mk (own := RX2) rfl (by decide) rfl (Nat.le_of_ble_eq_true rfl) ?_
  intro p e s m args below meth c A Q C hD hend H locs ls hP hS hl
  have hx := C.1.1
  have hb := C.1.2.1
  have hl : lv_has ls 3 [(0, .ref al), (1, .ref ar)] := hl
  refine lv_bipush (v := 60) hx hb dX2_otherGauge_0 (by decide) ?_
  refine lv_aload_n hx hb dX2_otherGauge_2 rfl (lv_at hl 0 rfl) ?_
  refine kget (v := .int (L 5)) C hP igX2 rfl 5 (by decide) wd_1_87 0 rfl rfl dX2_otherGauge_3 ?_
  refine lv_imul hx hb dX2_otherGauge_6 ?_
  refine lv_aload_n hx hb dX2_otherGauge_7 rfl (lv_at hl 0 rfl) ?_
  refine kget (v := .int (L 5)) C hP igX2 rfl 5 (by decide) wd_1_87 0 rfl rfl dX2_otherGauge_8 ?_
  refine lv_aload_n hx hb dX2_otherGauge_11 rfl (lv_at hl 1 rfl) ?_
  refine lv_bipush (v := 10) hx hb dX2_otherGauge_12 (by decide) ?_
  refine go_i (ws' := [lc al ag ai L, rc ar av, ac cI av 11 R]) C (rn_V (As := [.int 10]) (rest := [.int (L 5), .int (60 * (L 5))]) C (c_X3_valueOf l D cI ar av R 10 H.size) ck_X3_valueOf wd_1_183 wd_1_184 wd_1_228 ⟨Nat.le_of_ble_eq_true rfl, Nat.le_of_ble_eq_true rfl⟩ ⟨Nat.le_refl _, Nat.le_refl _⟩ (ci := 3) (q0 := 1) rfl rfl hP hD hS [1, 2] rfl rfl hl rfl (Nat.le_of_ble_eq_true rfl) dX2_otherGauge_14) hP hD hS [1, 2] rfl rfl rfl (fun H locs hP hD hS => ?_)
  refine lv_iadd hx hb dX2_otherGauge_17 ?_
  refine go_i (ws' := [lc al ag ai L, rc ar av, ac cI av 11 R]) C (rn_N (As := [.int (60 * (L 5)), .int ((L 5) + (r_X3_valueOf R 10))]) (rest := []) C (c_X4_quotient l D cI (60 * (L 5)) ((L 5) + (r_X3_valueOf R 10)) H.size) ck_X4_quotient wd_1_209 C.2.2.1.2.2.2.2.1 ⟨Nat.le_of_ble_eq_true rfl, Nat.le_of_ble_eq_true rfl⟩ ⟨Nat.le_refl _, Nat.le_refl _⟩ hP hD hS [] rfl rfl hl rfl (Nat.le_of_ble_eq_true rfl) dX2_otherGauge_18) hP hD hS [] rfl rfl rfl (fun H locs hP hD hS => ?_)
  refine lv_istore_n (lv' := [(2, .int (r_X4_quotient (60 * (L 5)) ((L 5) + (r_X3_valueOf R 10)))), (0, .ref al), (1, .ref ar)]) hx hb dX2_otherGauge_21 rfl hl (by decide) rfl (fun ls hl => ?_)
  refine lv_aload_n hx hb dX2_otherGauge_22 rfl (lv_at hl 1 rfl) ?_
  refine kget (v := .int (L 3)) C hP igX2 rfl 3 (by decide) wd_1_84 0 rfl rfl dX2_otherGauge_23 ?_
  refine lv_bipush (v := 100) hx hb dX2_otherGauge_26 (by decide) ?_
  refine lv_iload_n hx hb dX2_otherGauge_28 rfl (lv_at hl 0 rfl) ?_
  refine lv_iadd hx hb dX2_otherGauge_29 ?_
  refine lv_imul hx hb dX2_otherGauge_30 ?_
  refine lv_bipush (v := 100) hx hb dX2_otherGauge_31 (by decide) ?_
  refine lv_idiv hx hb dX2_otherGauge_33 (by decide) ?_
  exact hend _ _ _ _ _ (by rw [← hr, r_X2_otherGauge]) hP hS dX2_otherGauge_34
def r_X2_tell (L : Nat → Int32) (G : Nat → Int32) (I : Nat → Int32) (k : Int32) : Int32 := (if k = 0 then (L 2) else (if k = 1 then (L 3) else (if k = 2 then (((G 2) * (G 0)) + ((I 2) * (I 0))) else (if k = 3 then (L 6) else (if k = 4 then (L 5) else (if k = 5 then (L 4) else (if k = 6 then (r_X2_fallenVials G I) else (((G 0) + (I 0)) - (r_X2_vialsWithIce G I)))))))))
theorem ck_X2_tell : CK yX2_tell cX2_tell 2 (some .int) 1 := ⟨wd_2_66, wd_1_4, by decide, by decide, by decide +kernel⟩
set_option maxHeartbeats 4000000 in
set_option maxRecDepth 100000 in
theorem c_X2_tell (l : Launch) (D : va_G) (cI : ClassId) (al : Nat) (ag : Nat) (ai : Nat) (L : Nat → Int32) (G : Nat → Int32) (I : Nat → Int32) (k : Int32) : MI l D cI yX2_tell cX2_tell 2 (some .int) 1 20 [.ref al, .int k] [lc al ag ai L, gc ag G, gc ai I] (r_X2_tell L G I k) [lc al ag ai L, gc ag G, gc ai I] := by
  generalize hr : (r_X2_tell L G I k) = r
  refine MI.mk (own := RX2) rfl (by decide) rfl (Nat.le_of_ble_eq_true rfl) ?_
  intro p e s m args below meth c A Q C hD hend H locs ls hP hS hl
  have hx := C.1.1
  have hb := C.1.2.1
  have hl : lv_has ls 2 [(0, .ref al), (1, .int k)] := hl
  refine lv_iload_n hx hb dX2_tell_0 rfl (lv_at hl 1 rfl) ?_
  by_cases c1 : k = 0
  · refine lv_tableIn (off := 43) (tgt := 44) hx hb dX2_tell_1 (by rw [c1]; decide) (by rw [c1]; decide) (by rw [c1]; rfl) (by decide) ?_
    refine lv_aload_n hx hb dX2_tell_44 rfl (lv_at hl 0 rfl) ?_
    refine kget (v := .int (L 2)) C hP igX2 rfl 2 (by decide) wd_1_81 0 rfl rfl dX2_tell_45 ?_
    exact hend _ _ _ _ _ (by rw [← hr, r_X2_tell, if_pos c1]) hP hS dX2_tell_48
  · skip
    by_cases c2 : k = 1
    · refine lv_tableIn (off := 48) (tgt := 49) hx hb dX2_tell_1 (by rw [c2]; decide) (by rw [c2]; decide) (by rw [c2]; rfl) (by decide) ?_
      refine lv_aload_n hx hb dX2_tell_49 rfl (lv_at hl 0 rfl) ?_
      refine kget (v := .int (L 3)) C hP igX2 rfl 3 (by decide) wd_1_84 0 rfl rfl dX2_tell_50 ?_
      exact hend _ _ _ _ _ (by rw [← hr, r_X2_tell, if_neg c1, if_pos c2]) hP hS dX2_tell_53
    · skip
      by_cases c3 : k = 2
      · refine lv_tableIn (off := 53) (tgt := 54) hx hb dX2_tell_1 (by rw [c3]; decide) (by rw [c3]; decide) (by rw [c3]; rfl) (by decide) ?_
        refine lv_aload_n hx hb dX2_tell_54 rfl (lv_at hl 0 rfl) ?_
        refine kget (v := .ref ag) C hP igX2 rfl 0 (by decide) wd_1_76 0 rfl rfl dX2_tell_55 ?_
        refine kget (v := .int (G 2)) C hP igX0 rfl 2 (by decide) wd_1_50 1 rfl rfl dX2_tell_58 ?_
        refine lv_aload_n hx hb dX2_tell_61 rfl (lv_at hl 0 rfl) ?_
        refine kget (v := .ref ag) C hP igX2 rfl 0 (by decide) wd_1_76 0 rfl rfl dX2_tell_62 ?_
        refine kget (v := .int (G 0)) C hP igX0 rfl 0 (by decide) wd_1_46 1 rfl rfl dX2_tell_65 ?_
        refine lv_imul hx hb dX2_tell_68 ?_
        refine lv_aload_n hx hb dX2_tell_69 rfl (lv_at hl 0 rfl) ?_
        refine kget (v := .ref ai) C hP igX2 rfl 1 (by decide) wd_1_78 0 rfl rfl dX2_tell_70 ?_
        refine kget (v := .int (I 2)) C hP igX0 rfl 2 (by decide) wd_1_50 2 rfl rfl dX2_tell_73 ?_
        refine lv_aload_n hx hb dX2_tell_76 rfl (lv_at hl 0 rfl) ?_
        refine kget (v := .ref ai) C hP igX2 rfl 1 (by decide) wd_1_78 0 rfl rfl dX2_tell_77 ?_
        refine kget (v := .int (I 0)) C hP igX0 rfl 0 (by decide) wd_1_46 2 rfl rfl dX2_tell_80 ?_
        refine lv_imul hx hb dX2_tell_83 ?_
        refine lv_iadd hx hb dX2_tell_84 ?_
        exact hend _ _ _ _ _ (by rw [← hr, r_X2_tell, if_neg c1, if_neg c2, if_pos c3]) hP hS dX2_tell_85
      · skip
        by_cases c4 : k = 3
        · refine lv_tableIn (off := 85) (tgt := 86) hx hb dX2_tell_1 (by rw [c4]; decide) (by rw [c4]; decide) (by rw [c4]; rfl) (by decide) ?_
          refine lv_aload_n hx hb dX2_tell_86 rfl (lv_at hl 0 rfl) ?_
          refine kget (v := .int (L 6)) C hP igX2 rfl 6 (by decide) wd_1_88 0 rfl rfl dX2_tell_87 ?_
          exact hend _ _ _ _ _ (by rw [← hr, r_X2_tell, if_neg c1, if_neg c2, if_neg c3, if_pos c4]) hP hS dX2_tell_90
        · skip
          by_cases c5 : k = 4
          · refine lv_tableIn (off := 90) (tgt := 91) hx hb dX2_tell_1 (by rw [c5]; decide) (by rw [c5]; decide) (by rw [c5]; rfl) (by decide) ?_
            refine lv_aload_n hx hb dX2_tell_91 rfl (lv_at hl 0 rfl) ?_
            refine kget (v := .int (L 5)) C hP igX2 rfl 5 (by decide) wd_1_87 0 rfl rfl dX2_tell_92 ?_
            exact hend _ _ _ _ _ (by rw [← hr, r_X2_tell, if_neg c1, if_neg c2, if_neg c3, if_neg c4, if_pos c5]) hP hS dX2_tell_95
          · skip
            by_cases c6 : k = 5
            · refine lv_tableIn (off := 95) (tgt := 96) hx hb dX2_tell_1 (by rw [c6]; decide) (by rw [c6]; decide) (by rw [c6]; rfl) (by decide) ?_
              refine lv_aload_n hx hb dX2_tell_96 rfl (lv_at hl 0 rfl) ?_
              refine kget (v := .int (L 4)) C hP igX2 rfl 4 (by decide) wd_1_85 0 rfl rfl dX2_tell_97 ?_
              exact hend _ _ _ _ _ (by rw [← hr, r_X2_tell, if_neg c1, if_neg c2, if_neg c3, if_neg c4, if_neg c5, if_pos c6]) hP hS dX2_tell_100
            · skip
              by_cases c7 : k = 6
              · refine lv_tableIn (off := 100) (tgt := 101) hx hb dX2_tell_1 (by rw [c7]; decide) (by rw [c7]; decide) (by rw [c7]; rfl) (by decide) ?_
                refine lv_aload_n hx hb dX2_tell_101 rfl (lv_at hl 0 rfl) ?_
                refine go_i (ws' := [lc al ag ai L, gc ag G, gc ai I]) C (rn_V (As := []) (rest := []) C (c_X2_fallenVials l D cI al ag ai L G I H.size) ck_X2_fallenVials wd_2_68 wd_2_69 wd_2_67 ⟨Nat.le_of_ble_eq_true rfl, Nat.le_of_ble_eq_true rfl⟩ ⟨Nat.le_refl _, Nat.le_refl _⟩ (ci := 2) (q0 := 0) rfl rfl hP hD hS [0, 1, 2] rfl rfl hl rfl (Nat.le_of_ble_eq_true rfl) dX2_tell_102) hP hD hS [0, 1, 2] rfl rfl rfl (fun H locs hP hD hS => ?_)
                exact hend _ _ _ _ _ (by rw [← hr, r_X2_tell, if_neg c1, if_neg c2, if_neg c3, if_neg c4, if_neg c5, if_neg c6, if_pos c7]) hP hS dX2_tell_105
              · skip
                refine lv_tableOut (tgt := 106) hx hb dX2_tell_1 (ts_out (fun k h1 h2 => by rcases (by omega : k = 0 ∨ k = 1 ∨ k = 2 ∨ k = 3 ∨ k = 4 ∨ k = 5 ∨ k = 6) with rfl | rfl | rfl | rfl | rfl | rfl | rfl <;> assumption)) (by decide) ?_
                refine lv_aload_n hx hb dX2_tell_106 rfl (lv_at hl 0 rfl) ?_
                refine kget (v := .ref ag) C hP igX2 rfl 0 (by decide) wd_1_76 0 rfl rfl dX2_tell_107 ?_
                refine kget (v := .int (G 0)) C hP igX0 rfl 0 (by decide) wd_1_46 1 rfl rfl dX2_tell_110 ?_
                refine lv_aload_n hx hb dX2_tell_113 rfl (lv_at hl 0 rfl) ?_
                refine kget (v := .ref ai) C hP igX2 rfl 1 (by decide) wd_1_78 0 rfl rfl dX2_tell_114 ?_
                refine kget (v := .int (I 0)) C hP igX0 rfl 0 (by decide) wd_1_46 2 rfl rfl dX2_tell_117 ?_
                refine lv_iadd hx hb dX2_tell_120 ?_
                refine lv_aload_n hx hb dX2_tell_121 rfl (lv_at hl 0 rfl) ?_
                refine go_i (ws' := [lc al ag ai L, gc ag G, gc ai I]) C (rn_V (As := []) (rest := [.int ((G 0) + (I 0))]) C (c_X2_vialsWithIce l D cI al ag ai L G I H.size) ck_X2_vialsWithIce wd_2_7 wd_2_8 wd_2_71 ⟨Nat.le_of_ble_eq_true rfl, Nat.le_of_ble_eq_true rfl⟩ ⟨Nat.le_refl _, Nat.le_refl _⟩ (ci := 2) (q0 := 0) rfl rfl hP hD hS [0, 1, 2] rfl rfl hl rfl (Nat.le_of_ble_eq_true rfl) dX2_tell_122) hP hD hS [0, 1, 2] rfl rfl rfl (fun H locs hP hD hS => ?_)
                refine lv_isub hx hb dX2_tell_125 ?_
                exact hend _ _ _ _ _ (by rw [← hr, r_X2_tell, if_neg c1, if_neg c2, if_neg c3, if_neg c4, if_neg c5, if_neg c6, if_neg c7]) hP hS dX2_tell_126
def q_X2_start_L (se : Int32) : Nat → Int32 := (l7 0 se se 0 0)
def q_X2_start_G (R : Nat → Int32) (rw : Int32) (cl : Int32) : Nat → Int32 := (q_X0_fill_G ((rw * cl) - ((if 0 < (rw - 2) then (rw - 2) else 0) * (if 0 < (cl - 2) then (cl - 2) else 0))) 0 ((r_X3_valueOf R 1) + (r_X3_valueOf R 2)) (r_X3_valueOf R 0))
def q_X2_start_I (R : Nat → Int32) (rw : Int32) (cl : Int32) : Nat → Int32 := (q_X0_fill_G ((if 0 < (rw - 2) then (rw - 2) else 0) * (if 0 < (cl - 2) then (cl - 2) else 0)) (cl + 1) (r_X3_valueOf R 1) (r_X3_valueOf R 0))
theorem ck_X2_start : CK yX2_start cX2_start 8 none 4 := ⟨wd_1_226, wd_1_4, by decide, by decide, by decide +kernel⟩
set_option maxHeartbeats 4000000 in
set_option maxRecDepth 100000 in
theorem c_X2_start (l : Launch) (D : va_G) (cI : ClassId) (al : Nat) (ag : Nat) (ai : Nat) (L : Nat → Int32) (G : Nat → Int32) (I : Nat → Int32) (ar : Nat) (av : Nat) (R : Nat → Int32) (rw : Int32) (cl : Int32) (se : Int32) : MV l D cI yX2_start cX2_start 8 3 63 [.ref al, .ref ar, .int rw, .int cl, .int se] [lc al ag ai L, gc ag G, gc ai I, rc ar av, ac cI av 11 R] [lc al ag ai (q_X2_start_L se), gc ag (q_X2_start_G R rw cl), gc ai (q_X2_start_I R rw cl), rc ar av, ac cI av 11 R] := by
  generalize ho_L : (q_X2_start_L se) = o_L
  generalize ho_G : (q_X2_start_G R rw cl) = o_G
  generalize ho_I : (q_X2_start_I R rw cl) = o_I
  refine MV.mk (own := RX2) rfl (by decide) (Nat.le_of_ble_eq_true rfl) ?_
  intro p e s m args below meth c A Q C hD hend H locs ls hP hS hl
  have hx := C.1.1
  have hb := C.1.2.1
  have hl : lv_has ls 8 [(0, .ref al), (1, .ref ar), (2, .int rw), (3, .int cl), (4, .int se)] := hl
  refine lv_iconst (v := 0) hx hb dX2_start_0 (by decide) ?_
  refine lv_iload_n hx hb dX2_start_1 rfl (lv_at hl 2 rfl) ?_
  refine lv_iconst (v := 2) hx hb dX2_start_2 (by decide) ?_
  refine lv_isub hx hb dX2_start_3 ?_
  refine kmax C hl wd_1_227 wd_1_206 wd_1_8 wd_1_207 ⟨by decide, Nat.le_of_ble_eq_true rfl⟩ ⟨Nat.le_refl _, Nat.le_refl _⟩ dX2_start_4 ?_
  refine lv_iconst (v := 0) hx hb dX2_start_7 (by decide) ?_
  refine lv_iload_n hx hb dX2_start_8 rfl (lv_at hl 3 rfl) ?_
  refine lv_iconst (v := 2) hx hb dX2_start_9 (by decide) ?_
  refine lv_isub hx hb dX2_start_10 ?_
  refine kmax C hl wd_1_227 wd_1_206 wd_1_8 wd_1_207 ⟨by decide, Nat.le_of_ble_eq_true rfl⟩ ⟨Nat.le_refl _, Nat.le_refl _⟩ dX2_start_11 ?_
  refine lv_imul hx hb dX2_start_14 ?_
  refine lv_istore (lv' := [(5, .int ((if 0 < (rw - 2) then (rw - 2) else 0) * (if 0 < (cl - 2) then (cl - 2) else 0))), (0, .ref al), (1, .ref ar), (2, .int rw), (3, .int cl), (4, .int se)]) hx hb dX2_start_15 hl (by decide) rfl (fun ls hl => ?_)
  refine lv_aload_n hx hb dX2_start_17 rfl (lv_at hl 2 rfl) ?_
  refine lv_iconst (v := 1) hx hb dX2_start_18 (by decide) ?_
  refine go_i (ws' := [lc al ag ai L, gc ag G, gc ai I, rc ar av, ac cI av 11 R]) C (rn_V (As := [.int 1]) (rest := []) C (c_X3_valueOf l D cI ar av R 1 H.size) ck_X3_valueOf wd_1_183 wd_1_184 wd_1_228 ⟨Nat.le_of_ble_eq_true rfl, Nat.le_of_ble_eq_true rfl⟩ ⟨Nat.le_refl _, Nat.le_refl _⟩ (ci := 3) (q0 := 3) rfl rfl hP hD hS [3, 4] rfl rfl hl rfl (Nat.le_of_ble_eq_true rfl) dX2_start_19) hP hD hS [3, 4] rfl rfl rfl (fun H locs hP hD hS => ?_)
  refine lv_istore (lv' := [(6, .int (r_X3_valueOf R 1)), (5, .int ((if 0 < (rw - 2) then (rw - 2) else 0) * (if 0 < (cl - 2) then (cl - 2) else 0))), (0, .ref al), (1, .ref ar), (2, .int rw), (3, .int cl), (4, .int se)]) hx hb dX2_start_22 hl (by decide) rfl (fun ls hl => ?_)
  refine lv_aload_n hx hb dX2_start_24 rfl (lv_at hl 3 rfl) ?_
  refine lv_iconst (v := 0) hx hb dX2_start_25 (by decide) ?_
  refine go_i (ws' := [lc al ag ai L, gc ag G, gc ai I, rc ar av, ac cI av 11 R]) C (rn_V (As := [.int 0]) (rest := []) C (c_X3_valueOf l D cI ar av R 0 H.size) ck_X3_valueOf wd_1_183 wd_1_184 wd_1_228 ⟨Nat.le_of_ble_eq_true rfl, Nat.le_of_ble_eq_true rfl⟩ ⟨Nat.le_refl _, Nat.le_refl _⟩ (ci := 3) (q0 := 3) rfl rfl hP hD hS [3, 4] rfl rfl hl rfl (Nat.le_of_ble_eq_true rfl) dX2_start_26) hP hD hS [3, 4] rfl rfl rfl (fun H locs hP hD hS => ?_)
  refine lv_istore (lv' := [(7, .int (r_X3_valueOf R 0)), (6, .int (r_X3_valueOf R 1)), (5, .int ((if 0 < (rw - 2) then (rw - 2) else 0) * (if 0 < (cl - 2) then (cl - 2) else 0))), (0, .ref al), (1, .ref ar), (2, .int rw), (3, .int cl), (4, .int se)]) hx hb dX2_start_29 hl (by decide) rfl (fun ls hl => ?_)
  refine lv_aload_n hx hb dX2_start_31 rfl (lv_at hl 3 rfl) ?_
  refine kget (v := .ref ag) C hP igX2 rfl 0 (by decide) wd_1_76 0 rfl rfl dX2_start_32 ?_
  refine lv_iload_n hx hb dX2_start_35 rfl (lv_at hl 5 rfl) ?_
  refine lv_iload_n hx hb dX2_start_36 rfl (lv_at hl 6 rfl) ?_
  refine lv_imul hx hb dX2_start_37 ?_
  refine lv_iload hx hb dX2_start_38 (lv_at hl 2 rfl) ?_
  refine lv_isub hx hb dX2_start_40 ?_
  refine lv_iconst (v := 0) hx hb dX2_start_41 (by decide) ?_
  refine lv_iload hx hb dX2_start_42 (lv_at hl 1 rfl) ?_
  refine lv_aload_n hx hb dX2_start_44 rfl (lv_at hl 4 rfl) ?_
  refine lv_iconst (v := 2) hx hb dX2_start_45 (by decide) ?_
  refine go_i (ws' := [lc al ag ai L, gc ag G, gc ai I, rc ar av, ac cI av 11 R]) C (rn_V (As := [.int 2]) (rest := [.int (r_X3_valueOf R 1), .int 0, .int ((rw * cl) - ((if 0 < (rw - 2) then (rw - 2) else 0) * (if 0 < (cl - 2) then (cl - 2) else 0))), .ref ag]) C (c_X3_valueOf l D cI ar av R 2 H.size) ck_X3_valueOf wd_1_183 wd_1_184 wd_1_228 ⟨Nat.le_of_ble_eq_true rfl, Nat.le_of_ble_eq_true rfl⟩ ⟨Nat.le_refl _, Nat.le_refl _⟩ (ci := 3) (q0 := 3) rfl rfl hP hD hS [3, 4] rfl rfl hl rfl (Nat.le_of_ble_eq_true rfl) dX2_start_46) hP hD hS [3, 4] rfl rfl rfl (fun H locs hP hD hS => ?_)
  refine lv_iadd hx hb dX2_start_49 ?_
  refine lv_iload hx hb dX2_start_50 (lv_at hl 0 rfl) ?_
  refine go_v (ws' := [lc al ag ai L, gc ag (q_X0_fill_G ((rw * cl) - ((if 0 < (rw - 2) then (rw - 2) else 0) * (if 0 < (cl - 2) then (cl - 2) else 0))) 0 ((r_X3_valueOf R 1) + (r_X3_valueOf R 2)) (r_X3_valueOf R 0)), gc ai I, rc ar av, ac cI av 11 R]) C (rn_V (As := [.int ((rw * cl) - ((if 0 < (rw - 2) then (rw - 2) else 0) * (if 0 < (cl - 2) then (cl - 2) else 0))), .int 0, .int ((r_X3_valueOf R 1) + (r_X3_valueOf R 2)), .int (r_X3_valueOf R 0)]) (rest := []) C (c_X0_fill l D cI ag G ((rw * cl) - ((if 0 < (rw - 2) then (rw - 2) else 0) * (if 0 < (cl - 2) then (cl - 2) else 0))) 0 ((r_X3_valueOf R 1) + (r_X3_valueOf R 2)) (r_X3_valueOf R 0) H.size) ck_X0_fill wd_1_230 wd_1_231 wd_1_229 ⟨Nat.le_of_ble_eq_true rfl, Nat.le_of_ble_eq_true rfl⟩ ⟨Nat.le_refl _, Nat.le_refl _⟩ (ci := 0) (q0 := 1) rfl rfl hP hD hS [1] rfl rfl hl rfl (Nat.le_of_ble_eq_true rfl) dX2_start_52) hP hD hS [1] rfl rfl rfl (fun H locs hP hD hS => ?_)
  refine lv_aload_n hx hb dX2_start_55 rfl (lv_at hl 3 rfl) ?_
  refine kget (v := .ref ai) C hP igX2 rfl 1 (by decide) wd_1_78 0 rfl rfl dX2_start_56 ?_
  refine lv_iload hx hb dX2_start_59 (lv_at hl 2 rfl) ?_
  refine lv_iload_n hx hb dX2_start_61 rfl (lv_at hl 6 rfl) ?_
  refine lv_iconst (v := 1) hx hb dX2_start_62 (by decide) ?_
  refine lv_iadd hx hb dX2_start_63 ?_
  refine lv_iload hx hb dX2_start_64 (lv_at hl 1 rfl) ?_
  refine lv_iload hx hb dX2_start_66 (lv_at hl 0 rfl) ?_
  refine go_v (ws' := [lc al ag ai L, gc ag (q_X0_fill_G ((rw * cl) - ((if 0 < (rw - 2) then (rw - 2) else 0) * (if 0 < (cl - 2) then (cl - 2) else 0))) 0 ((r_X3_valueOf R 1) + (r_X3_valueOf R 2)) (r_X3_valueOf R 0)), gc ai (q_X0_fill_G ((if 0 < (rw - 2) then (rw - 2) else 0) * (if 0 < (cl - 2) then (cl - 2) else 0)) (cl + 1) (r_X3_valueOf R 1) (r_X3_valueOf R 0)), rc ar av, ac cI av 11 R]) C (rn_V (As := [.int ((if 0 < (rw - 2) then (rw - 2) else 0) * (if 0 < (cl - 2) then (cl - 2) else 0)), .int (cl + 1), .int (r_X3_valueOf R 1), .int (r_X3_valueOf R 0)]) (rest := []) C (c_X0_fill l D cI ai I ((if 0 < (rw - 2) then (rw - 2) else 0) * (if 0 < (cl - 2) then (cl - 2) else 0)) (cl + 1) (r_X3_valueOf R 1) (r_X3_valueOf R 0) H.size) ck_X0_fill wd_1_230 wd_1_231 wd_1_229 ⟨Nat.le_of_ble_eq_true rfl, Nat.le_of_ble_eq_true rfl⟩ ⟨Nat.le_refl _, Nat.le_refl _⟩ (ci := 0) (q0 := 2) rfl rfl hP hD hS [2] rfl rfl hl rfl (Nat.le_of_ble_eq_true rfl) dX2_start_68) hP hD hS [2] rfl rfl rfl (fun H locs hP hD hS => ?_)
  refine lv_aload_n hx hb dX2_start_71 rfl (lv_at hl 3 rfl) ?_
  refine lv_iconst (v := 0) hx hb dX2_start_72 (by decide) ?_
  refine kput (ty := .int) (ws' := [lc al ag ai (l7 0 (L 3) (L 4) (L 5) (L 6)), gc ag (q_X0_fill_G ((rw * cl) - ((if 0 < (rw - 2) then (rw - 2) else 0) * (if 0 < (cl - 2) then (cl - 2) else 0))) 0 ((r_X3_valueOf R 1) + (r_X3_valueOf R 2)) (r_X3_valueOf R 0)), gc ai (q_X0_fill_G ((if 0 < (rw - 2) then (rw - 2) else 0) * (if 0 < (cl - 2) then (cl - 2) else 0)) (cl + 1) (r_X3_valueOf R 1) (r_X3_valueOf R 0)), rc ar av, ac cI av 11 R]) C hP hD hS igX2 tyX2_ok nmX2 rfl 2 (by decide) wd_1_81 rfl rfl rfl rfl 0 rfl (Nat.le_of_ble_eq_true rfl) rfl dX2_start_73 (fun H locs hP hD hS => ?_)
  refine lv_aload_n hx hb dX2_start_76 rfl (lv_at hl 3 rfl) ?_
  refine lv_iload hx hb dX2_start_77 (lv_at hl 7 rfl) ?_
  refine kput (ty := .int) (ws' := [lc al ag ai (l7 0 se (L 4) (L 5) (L 6)), gc ag (q_X0_fill_G ((rw * cl) - ((if 0 < (rw - 2) then (rw - 2) else 0) * (if 0 < (cl - 2) then (cl - 2) else 0))) 0 ((r_X3_valueOf R 1) + (r_X3_valueOf R 2)) (r_X3_valueOf R 0)), gc ai (q_X0_fill_G ((if 0 < (rw - 2) then (rw - 2) else 0) * (if 0 < (cl - 2) then (cl - 2) else 0)) (cl + 1) (r_X3_valueOf R 1) (r_X3_valueOf R 0)), rc ar av, ac cI av 11 R]) C hP hD hS igX2 tyX2_ok nmX2 rfl 3 (by decide) wd_1_84 rfl rfl rfl rfl 0 rfl (Nat.le_of_ble_eq_true rfl) rfl dX2_start_79 (fun H locs hP hD hS => ?_)
  refine lv_aload_n hx hb dX2_start_82 rfl (lv_at hl 3 rfl) ?_
  refine lv_iload hx hb dX2_start_83 (lv_at hl 7 rfl) ?_
  refine kput (ty := .int) (ws' := [lc al ag ai (l7 0 se se (L 5) (L 6)), gc ag (q_X0_fill_G ((rw * cl) - ((if 0 < (rw - 2) then (rw - 2) else 0) * (if 0 < (cl - 2) then (cl - 2) else 0))) 0 ((r_X3_valueOf R 1) + (r_X3_valueOf R 2)) (r_X3_valueOf R 0)), gc ai (q_X0_fill_G ((if 0 < (rw - 2) then (rw - 2) else 0) * (if 0 < (cl - 2) then (cl - 2) else 0)) (cl + 1) (r_X3_valueOf R 1) (r_X3_valueOf R 0)), rc ar av, ac cI av 11 R]) C hP hD hS igX2 tyX2_ok nmX2 rfl 4 (by decide) wd_1_85 rfl rfl rfl rfl 0 rfl (Nat.le_of_ble_eq_true rfl) rfl dX2_start_85 (fun H locs hP hD hS => ?_)
  refine lv_aload_n hx hb dX2_start_88 rfl (lv_at hl 3 rfl) ?_
  refine lv_iconst (v := 0) hx hb dX2_start_89 (by decide) ?_
  refine kput (ty := .int) (ws' := [lc al ag ai (l7 0 se se 0 (L 6)), gc ag (q_X0_fill_G ((rw * cl) - ((if 0 < (rw - 2) then (rw - 2) else 0) * (if 0 < (cl - 2) then (cl - 2) else 0))) 0 ((r_X3_valueOf R 1) + (r_X3_valueOf R 2)) (r_X3_valueOf R 0)), gc ai (q_X0_fill_G ((if 0 < (rw - 2) then (rw - 2) else 0) * (if 0 < (cl - 2) then (cl - 2) else 0)) (cl + 1) (r_X3_valueOf R 1) (r_X3_valueOf R 0)), rc ar av, ac cI av 11 R]) C hP hD hS igX2 tyX2_ok nmX2 rfl 5 (by decide) wd_1_87 rfl rfl rfl rfl 0 rfl (Nat.le_of_ble_eq_true rfl) rfl dX2_start_90 (fun H locs hP hD hS => ?_)
  refine lv_aload_n hx hb dX2_start_93 rfl (lv_at hl 3 rfl) ?_
  refine lv_iconst (v := 0) hx hb dX2_start_94 (by decide) ?_
  refine kput (ty := .int) (ws' := [lc al ag ai (l7 0 se se 0 0), gc ag (q_X0_fill_G ((rw * cl) - ((if 0 < (rw - 2) then (rw - 2) else 0) * (if 0 < (cl - 2) then (cl - 2) else 0))) 0 ((r_X3_valueOf R 1) + (r_X3_valueOf R 2)) (r_X3_valueOf R 0)), gc ai (q_X0_fill_G ((if 0 < (rw - 2) then (rw - 2) else 0) * (if 0 < (cl - 2) then (cl - 2) else 0)) (cl + 1) (r_X3_valueOf R 1) (r_X3_valueOf R 0)), rc ar av, ac cI av 11 R]) C hP hD hS igX2 tyX2_ok nmX2 rfl 6 (by decide) wd_1_88 rfl rfl rfl rfl 0 rfl (Nat.le_of_ble_eq_true rfl) rfl dX2_start_95 (fun H locs hP hD hS => ?_)
  exact hend _ _ _ _ (by rw [← ho_L, q_X2_start_L, ← ho_G, q_X2_start_G, ← ho_I, q_X2_start_I]; exact hP) hS dX2_start_98
noncomputable def q_X2_passMinute_L (L : Nat → Int32) (G : Nat → Int32) (I : Nat → Int32) (R : Nat → Int32) (sh : Int32) (se : Int32) : Nat → Int32 := (l7 ((L 2) + 1) (if se < (r_X2_pressureBehind (l7 (L 2) (L 3) (L 4) ((((q_X0_passMinute_G G R sh (L 3) (L 2)) 3) * ((q_X0_passMinute_G G R sh (L 3) (L 2)) 0)) + (((q_X0_passMinute_G I R sh (L 3) (L 2)) 3) * ((q_X0_passMinute_G I R sh (L 3) (L 2)) 0))) ((L 6) + ((((q_X0_passMinute_G G R sh (L 3) (L 2)) 3) * ((q_X0_passMinute_G G R sh (L 3) (L 2)) 0)) + (((q_X0_passMinute_G I R sh (L 3) (L 2)) 3) * ((q_X0_passMinute_G I R sh (L 3) (L 2)) 0))))) R) then (r_X2_pressureBehind (l7 (L 2) (L 3) (L 4) ((((q_X0_passMinute_G G R sh (L 3) (L 2)) 3) * ((q_X0_passMinute_G G R sh (L 3) (L 2)) 0)) + (((q_X0_passMinute_G I R sh (L 3) (L 2)) 3) * ((q_X0_passMinute_G I R sh (L 3) (L 2)) 0))) ((L 6) + ((((q_X0_passMinute_G G R sh (L 3) (L 2)) 3) * ((q_X0_passMinute_G G R sh (L 3) (L 2)) 0)) + (((q_X0_passMinute_G I R sh (L 3) (L 2)) 3) * ((q_X0_passMinute_G I R sh (L 3) (L 2)) 0))))) R) else se) (if (L 4) < (if se < (r_X2_pressureBehind (l7 (L 2) (L 3) (L 4) ((((q_X0_passMinute_G G R sh (L 3) (L 2)) 3) * ((q_X0_passMinute_G G R sh (L 3) (L 2)) 0)) + (((q_X0_passMinute_G I R sh (L 3) (L 2)) 3) * ((q_X0_passMinute_G I R sh (L 3) (L 2)) 0))) ((L 6) + ((((q_X0_passMinute_G G R sh (L 3) (L 2)) 3) * ((q_X0_passMinute_G G R sh (L 3) (L 2)) 0)) + (((q_X0_passMinute_G I R sh (L 3) (L 2)) 3) * ((q_X0_passMinute_G I R sh (L 3) (L 2)) 0))))) R) then (r_X2_pressureBehind (l7 (L 2) (L 3) (L 4) ((((q_X0_passMinute_G G R sh (L 3) (L 2)) 3) * ((q_X0_passMinute_G G R sh (L 3) (L 2)) 0)) + (((q_X0_passMinute_G I R sh (L 3) (L 2)) 3) * ((q_X0_passMinute_G I R sh (L 3) (L 2)) 0))) ((L 6) + ((((q_X0_passMinute_G G R sh (L 3) (L 2)) 3) * ((q_X0_passMinute_G G R sh (L 3) (L 2)) 0)) + (((q_X0_passMinute_G I R sh (L 3) (L 2)) 3) * ((q_X0_passMinute_G I R sh (L 3) (L 2)) 0))))) R) else se) then (if se < (r_X2_pressureBehind (l7 (L 2) (L 3) (L 4) ((((q_X0_passMinute_G G R sh (L 3) (L 2)) 3) * ((q_X0_passMinute_G G R sh (L 3) (L 2)) 0)) + (((q_X0_passMinute_G I R sh (L 3) (L 2)) 3) * ((q_X0_passMinute_G I R sh (L 3) (L 2)) 0))) ((L 6) + ((((q_X0_passMinute_G G R sh (L 3) (L 2)) 3) * ((q_X0_passMinute_G G R sh (L 3) (L 2)) 0)) + (((q_X0_passMinute_G I R sh (L 3) (L 2)) 3) * ((q_X0_passMinute_G I R sh (L 3) (L 2)) 0))))) R) then (r_X2_pressureBehind (l7 (L 2) (L 3) (L 4) ((((q_X0_passMinute_G G R sh (L 3) (L 2)) 3) * ((q_X0_passMinute_G G R sh (L 3) (L 2)) 0)) + (((q_X0_passMinute_G I R sh (L 3) (L 2)) 3) * ((q_X0_passMinute_G I R sh (L 3) (L 2)) 0))) ((L 6) + ((((q_X0_passMinute_G G R sh (L 3) (L 2)) 3) * ((q_X0_passMinute_G G R sh (L 3) (L 2)) 0)) + (((q_X0_passMinute_G I R sh (L 3) (L 2)) 3) * ((q_X0_passMinute_G I R sh (L 3) (L 2)) 0))))) R) else se) else (L 4)) ((((q_X0_passMinute_G G R sh (L 3) (L 2)) 3) * ((q_X0_passMinute_G G R sh (L 3) (L 2)) 0)) + (((q_X0_passMinute_G I R sh (L 3) (L 2)) 3) * ((q_X0_passMinute_G I R sh (L 3) (L 2)) 0))) ((L 6) + ((((q_X0_passMinute_G G R sh (L 3) (L 2)) 3) * ((q_X0_passMinute_G G R sh (L 3) (L 2)) 0)) + (((q_X0_passMinute_G I R sh (L 3) (L 2)) 3) * ((q_X0_passMinute_G I R sh (L 3) (L 2)) 0)))))
noncomputable def q_X2_passMinute_G (L : Nat → Int32) (G : Nat → Int32) (R : Nat → Int32) (sh : Int32) : Nat → Int32 := (q_X0_passMinute_G G R sh (L 3) (L 2))
noncomputable def q_X2_passMinute_I (L : Nat → Int32) (I : Nat → Int32) (R : Nat → Int32) (sh : Int32) : Nat → Int32 := (q_X0_passMinute_G I R sh (L 3) (L 2))
theorem ck_X2_passMinute : CK yX2_passMinute cX2_passMinute 4 none 3 := ⟨wd_2_25, wd_1_4, by decide, by decide, by decide +kernel⟩
set_option maxHeartbeats 4000000 in
set_option maxRecDepth 100000 in
theorem c_X2_passMinute (l : Launch) (D : va_G) (cI : ClassId) (al : Nat) (ag : Nat) (ai : Nat) (L : Nat → Int32) (G : Nat → Int32) (I : Nat → Int32) (ar : Nat) (av : Nat) (R : Nat → Int32) (sh : Int32) (se : Int32) : MV l D cI yX2_passMinute cX2_passMinute 4 4 102 [.ref al, .ref ar, .int sh, .int se] [lc al ag ai L, gc ag G, gc ai I, rc ar av, ac cI av 11 R] [lc al ag ai (q_X2_passMinute_L L G I R sh se), gc ag (q_X2_passMinute_G L G R sh), gc ai (q_X2_passMinute_I L I R sh), rc ar av, ac cI av 11 R] := by
  generalize ho_L : (q_X2_passMinute_L L G I R sh se) = o_L
  generalize ho_G : (q_X2_passMinute_G L G R sh) = o_G
  generalize ho_I : (q_X2_passMinute_I L I R sh) = o_I
  refine MV.mk (own := RX2) rfl (by decide) (Nat.le_of_ble_eq_true rfl) ?_
  intro p e s m args below meth c A Q C hD hend H locs ls hP hS hl
  have hx := C.1.1
  have hb := C.1.2.1
  have hl : lv_has ls 4 [(0, .ref al), (1, .ref ar), (2, .int sh), (3, .int se)] := hl
  refine lv_aload_n hx hb dX2_passMinute_0 rfl (lv_at hl 0 rfl) ?_
  refine kget (v := .ref ag) C hP igX2 rfl 0 (by decide) wd_1_76 0 rfl rfl dX2_passMinute_1 ?_
  refine lv_aload_n hx hb dX2_passMinute_4 rfl (lv_at hl 1 rfl) ?_
  refine lv_iload_n hx hb dX2_passMinute_5 rfl (lv_at hl 2 rfl) ?_
  refine lv_aload_n hx hb dX2_passMinute_6 rfl (lv_at hl 0 rfl) ?_
  refine kget (v := .int (L 3)) C hP igX2 rfl 3 (by decide) wd_1_84 0 rfl rfl dX2_passMinute_7 ?_
  refine lv_aload_n hx hb dX2_passMinute_10 rfl (lv_at hl 0 rfl) ?_
  refine kget (v := .int (L 2)) C hP igX2 rfl 2 (by decide) wd_1_81 0 rfl rfl dX2_passMinute_11 ?_
  refine go_v (ws' := [lc al ag ai L, gc ag (q_X0_passMinute_G G R sh (L 3) (L 2)), gc ai I, rc ar av, ac cI av 11 R]) C (rn_V (As := [.ref ar, .int sh, .int (L 3), .int (L 2)]) (rest := []) C (c_X0_passMinute l D cI ag G ar av R sh (L 3) (L 2) H.size) ck_X0_passMinute wd_2_27 wd_2_28 wd_2_26 ⟨Nat.le_of_ble_eq_true rfl, Nat.le_of_ble_eq_true rfl⟩ ⟨Nat.le_refl _, Nat.le_refl _⟩ (ci := 0) (q0 := 1) rfl rfl hP hD hS [1, 3, 4] rfl rfl hl rfl (Nat.le_of_ble_eq_true rfl) dX2_passMinute_14) hP hD hS [1, 3, 4] rfl rfl rfl (fun H locs hP hD hS => ?_)
  refine lv_aload_n hx hb dX2_passMinute_17 rfl (lv_at hl 0 rfl) ?_
  refine kget (v := .ref ai) C hP igX2 rfl 1 (by decide) wd_1_78 0 rfl rfl dX2_passMinute_18 ?_
  refine lv_aload_n hx hb dX2_passMinute_21 rfl (lv_at hl 1 rfl) ?_
  refine lv_iload_n hx hb dX2_passMinute_22 rfl (lv_at hl 2 rfl) ?_
  refine lv_aload_n hx hb dX2_passMinute_23 rfl (lv_at hl 0 rfl) ?_
  refine kget (v := .int (L 3)) C hP igX2 rfl 3 (by decide) wd_1_84 0 rfl rfl dX2_passMinute_24 ?_
  refine lv_aload_n hx hb dX2_passMinute_27 rfl (lv_at hl 0 rfl) ?_
  refine kget (v := .int (L 2)) C hP igX2 rfl 2 (by decide) wd_1_81 0 rfl rfl dX2_passMinute_28 ?_
  refine go_v (ws' := [lc al ag ai L, gc ag (q_X0_passMinute_G G R sh (L 3) (L 2)), gc ai (q_X0_passMinute_G I R sh (L 3) (L 2)), rc ar av, ac cI av 11 R]) C (rn_V (As := [.ref ar, .int sh, .int (L 3), .int (L 2)]) (rest := []) C (c_X0_passMinute l D cI ai I ar av R sh (L 3) (L 2) H.size) ck_X0_passMinute wd_2_27 wd_2_28 wd_2_26 ⟨Nat.le_of_ble_eq_true rfl, Nat.le_of_ble_eq_true rfl⟩ ⟨Nat.le_refl _, Nat.le_refl _⟩ (ci := 0) (q0 := 2) rfl rfl hP hD hS [2, 3, 4] rfl rfl hl rfl (Nat.le_of_ble_eq_true rfl) dX2_passMinute_31) hP hD hS [2, 3, 4] rfl rfl rfl (fun H locs hP hD hS => ?_)
  refine lv_aload_n hx hb dX2_passMinute_34 rfl (lv_at hl 0 rfl) ?_
  refine lv_aload_n hx hb dX2_passMinute_35 rfl (lv_at hl 0 rfl) ?_
  refine kget (v := .ref ag) C hP igX2 rfl 0 (by decide) wd_1_76 0 rfl rfl dX2_passMinute_36 ?_
  refine kget (v := .int ((q_X0_passMinute_G G R sh (L 3) (L 2)) 3)) C hP igX0 rfl 3 (by decide) wd_1_52 1 rfl rfl dX2_passMinute_39 ?_
  refine lv_aload_n hx hb dX2_passMinute_42 rfl (lv_at hl 0 rfl) ?_
  refine kget (v := .ref ag) C hP igX2 rfl 0 (by decide) wd_1_76 0 rfl rfl dX2_passMinute_43 ?_
  refine kget (v := .int ((q_X0_passMinute_G G R sh (L 3) (L 2)) 0)) C hP igX0 rfl 0 (by decide) wd_1_46 1 rfl rfl dX2_passMinute_46 ?_
  refine lv_imul hx hb dX2_passMinute_49 ?_
  refine lv_aload_n hx hb dX2_passMinute_50 rfl (lv_at hl 0 rfl) ?_
  refine kget (v := .ref ai) C hP igX2 rfl 1 (by decide) wd_1_78 0 rfl rfl dX2_passMinute_51 ?_
  refine kget (v := .int ((q_X0_passMinute_G I R sh (L 3) (L 2)) 3)) C hP igX0 rfl 3 (by decide) wd_1_52 2 rfl rfl dX2_passMinute_54 ?_
  refine lv_aload_n hx hb dX2_passMinute_57 rfl (lv_at hl 0 rfl) ?_
  refine kget (v := .ref ai) C hP igX2 rfl 1 (by decide) wd_1_78 0 rfl rfl dX2_passMinute_58 ?_
  refine kget (v := .int ((q_X0_passMinute_G I R sh (L 3) (L 2)) 0)) C hP igX0 rfl 0 (by decide) wd_1_46 2 rfl rfl dX2_passMinute_61 ?_
  refine lv_imul hx hb dX2_passMinute_64 ?_
  refine lv_iadd hx hb dX2_passMinute_65 ?_
  refine kput (ty := .int) (ws' := [lc al ag ai (l7 (L 2) (L 3) (L 4) ((((q_X0_passMinute_G G R sh (L 3) (L 2)) 3) * ((q_X0_passMinute_G G R sh (L 3) (L 2)) 0)) + (((q_X0_passMinute_G I R sh (L 3) (L 2)) 3) * ((q_X0_passMinute_G I R sh (L 3) (L 2)) 0))) (L 6)), gc ag (q_X0_passMinute_G G R sh (L 3) (L 2)), gc ai (q_X0_passMinute_G I R sh (L 3) (L 2)), rc ar av, ac cI av 11 R]) C hP hD hS igX2 tyX2_ok nmX2 rfl 5 (by decide) wd_1_87 rfl rfl rfl rfl 0 rfl (Nat.le_of_ble_eq_true rfl) rfl dX2_passMinute_66 (fun H locs hP hD hS => ?_)
  refine lv_aload_n hx hb dX2_passMinute_69 rfl (lv_at hl 0 rfl) ?_
  refine lv_dup hx hb dX2_passMinute_70 rfl ?_
  refine kget (v := .int (L 6)) C hP igX2 rfl 6 (by decide) wd_1_88 0 rfl rfl dX2_passMinute_71 ?_
  refine lv_aload_n hx hb dX2_passMinute_74 rfl (lv_at hl 0 rfl) ?_
  refine kget (v := .int ((((q_X0_passMinute_G G R sh (L 3) (L 2)) 3) * ((q_X0_passMinute_G G R sh (L 3) (L 2)) 0)) + (((q_X0_passMinute_G I R sh (L 3) (L 2)) 3) * ((q_X0_passMinute_G I R sh (L 3) (L 2)) 0)))) C hP igX2 rfl 5 (by decide) wd_1_87 0 rfl rfl dX2_passMinute_75 ?_
  refine lv_iadd hx hb dX2_passMinute_78 ?_
  refine kput (ty := .int) (ws' := [lc al ag ai (l7 (L 2) (L 3) (L 4) ((((q_X0_passMinute_G G R sh (L 3) (L 2)) 3) * ((q_X0_passMinute_G G R sh (L 3) (L 2)) 0)) + (((q_X0_passMinute_G I R sh (L 3) (L 2)) 3) * ((q_X0_passMinute_G I R sh (L 3) (L 2)) 0))) ((L 6) + ((((q_X0_passMinute_G G R sh (L 3) (L 2)) 3) * ((q_X0_passMinute_G G R sh (L 3) (L 2)) 0)) + (((q_X0_passMinute_G I R sh (L 3) (L 2)) 3) * ((q_X0_passMinute_G I R sh (L 3) (L 2)) 0))))), gc ag (q_X0_passMinute_G G R sh (L 3) (L 2)), gc ai (q_X0_passMinute_G I R sh (L 3) (L 2)), rc ar av, ac cI av 11 R]) C hP hD hS igX2 tyX2_ok nmX2 rfl 6 (by decide) wd_1_88 rfl rfl rfl rfl 0 rfl (Nat.le_of_ble_eq_true rfl) rfl dX2_passMinute_79 (fun H locs hP hD hS => ?_)
  refine lv_aload_n hx hb dX2_passMinute_82 rfl (lv_at hl 0 rfl) ?_
  refine lv_iload_n hx hb dX2_passMinute_83 rfl (lv_at hl 3 rfl) ?_
  refine lv_aload_n hx hb dX2_passMinute_84 rfl (lv_at hl 0 rfl) ?_
  refine lv_aload_n hx hb dX2_passMinute_85 rfl (lv_at hl 1 rfl) ?_
  refine go_i (ws' := [lc al ag ai (l7 (L 2) (L 3) (L 4) ((((q_X0_passMinute_G G R sh (L 3) (L 2)) 3) * ((q_X0_passMinute_G G R sh (L 3) (L 2)) 0)) + (((q_X0_passMinute_G I R sh (L 3) (L 2)) 3) * ((q_X0_passMinute_G I R sh (L 3) (L 2)) 0))) ((L 6) + ((((q_X0_passMinute_G G R sh (L 3) (L 2)) 3) * ((q_X0_passMinute_G G R sh (L 3) (L 2)) 0)) + (((q_X0_passMinute_G I R sh (L 3) (L 2)) 3) * ((q_X0_passMinute_G I R sh (L 3) (L 2)) 0))))), gc ag (q_X0_passMinute_G G R sh (L 3) (L 2)), gc ai (q_X0_passMinute_G I R sh (L 3) (L 2)), rc ar av, ac cI av 11 R]) C (rn_V (As := [.ref ar]) (rest := [.int se, .ref al]) C (c_X2_pressureBehind l D cI al ag ai (l7 (L 2) (L 3) (L 4) ((((q_X0_passMinute_G G R sh (L 3) (L 2)) 3) * ((q_X0_passMinute_G G R sh (L 3) (L 2)) 0)) + (((q_X0_passMinute_G I R sh (L 3) (L 2)) 3) * ((q_X0_passMinute_G I R sh (L 3) (L 2)) 0))) ((L 6) + ((((q_X0_passMinute_G G R sh (L 3) (L 2)) 3) * ((q_X0_passMinute_G G R sh (L 3) (L 2)) 0)) + (((q_X0_passMinute_G I R sh (L 3) (L 2)) 3) * ((q_X0_passMinute_G I R sh (L 3) (L 2)) 0))))) ar av R H.size) ck_X2_pressureBehind wd_2_43 wd_0_3 wd_2_41 ⟨Nat.le_of_ble_eq_true rfl, Nat.le_of_ble_eq_true rfl⟩ ⟨Nat.le_refl _, Nat.le_refl _⟩ (ci := 2) (q0 := 0) rfl rfl hP hD hS [0, 3, 4] rfl rfl hl rfl (Nat.le_of_ble_eq_true rfl) dX2_passMinute_86) hP hD hS [0, 3, 4] rfl rfl rfl (fun H locs hP hD hS => ?_)
  refine kmax C hl wd_1_227 wd_1_206 wd_1_8 wd_1_207 ⟨by decide, Nat.le_of_ble_eq_true rfl⟩ ⟨Nat.le_refl _, Nat.le_refl _⟩ dX2_passMinute_89 ?_
  refine kput (ty := .int) (ws' := [lc al ag ai (l7 (L 2) (if se < (r_X2_pressureBehind (l7 (L 2) (L 3) (L 4) ((((q_X0_passMinute_G G R sh (L 3) (L 2)) 3) * ((q_X0_passMinute_G G R sh (L 3) (L 2)) 0)) + (((q_X0_passMinute_G I R sh (L 3) (L 2)) 3) * ((q_X0_passMinute_G I R sh (L 3) (L 2)) 0))) ((L 6) + ((((q_X0_passMinute_G G R sh (L 3) (L 2)) 3) * ((q_X0_passMinute_G G R sh (L 3) (L 2)) 0)) + (((q_X0_passMinute_G I R sh (L 3) (L 2)) 3) * ((q_X0_passMinute_G I R sh (L 3) (L 2)) 0))))) R) then (r_X2_pressureBehind (l7 (L 2) (L 3) (L 4) ((((q_X0_passMinute_G G R sh (L 3) (L 2)) 3) * ((q_X0_passMinute_G G R sh (L 3) (L 2)) 0)) + (((q_X0_passMinute_G I R sh (L 3) (L 2)) 3) * ((q_X0_passMinute_G I R sh (L 3) (L 2)) 0))) ((L 6) + ((((q_X0_passMinute_G G R sh (L 3) (L 2)) 3) * ((q_X0_passMinute_G G R sh (L 3) (L 2)) 0)) + (((q_X0_passMinute_G I R sh (L 3) (L 2)) 3) * ((q_X0_passMinute_G I R sh (L 3) (L 2)) 0))))) R) else se) (L 4) ((((q_X0_passMinute_G G R sh (L 3) (L 2)) 3) * ((q_X0_passMinute_G G R sh (L 3) (L 2)) 0)) + (((q_X0_passMinute_G I R sh (L 3) (L 2)) 3) * ((q_X0_passMinute_G I R sh (L 3) (L 2)) 0))) ((L 6) + ((((q_X0_passMinute_G G R sh (L 3) (L 2)) 3) * ((q_X0_passMinute_G G R sh (L 3) (L 2)) 0)) + (((q_X0_passMinute_G I R sh (L 3) (L 2)) 3) * ((q_X0_passMinute_G I R sh (L 3) (L 2)) 0))))), gc ag (q_X0_passMinute_G G R sh (L 3) (L 2)), gc ai (q_X0_passMinute_G I R sh (L 3) (L 2)), rc ar av, ac cI av 11 R]) C hP hD hS igX2 tyX2_ok nmX2 rfl 3 (by decide) wd_1_84 rfl rfl rfl rfl 0 rfl (Nat.le_of_ble_eq_true rfl) rfl dX2_passMinute_92 (fun H locs hP hD hS => ?_)
  refine lv_aload_n hx hb dX2_passMinute_95 rfl (lv_at hl 0 rfl) ?_
  refine lv_aload_n hx hb dX2_passMinute_96 rfl (lv_at hl 0 rfl) ?_
  refine kget (v := .int (L 4)) C hP igX2 rfl 4 (by decide) wd_1_85 0 rfl rfl dX2_passMinute_97 ?_
  refine lv_aload_n hx hb dX2_passMinute_100 rfl (lv_at hl 0 rfl) ?_
  refine kget (v := .int (if se < (r_X2_pressureBehind (l7 (L 2) (L 3) (L 4) ((((q_X0_passMinute_G G R sh (L 3) (L 2)) 3) * ((q_X0_passMinute_G G R sh (L 3) (L 2)) 0)) + (((q_X0_passMinute_G I R sh (L 3) (L 2)) 3) * ((q_X0_passMinute_G I R sh (L 3) (L 2)) 0))) ((L 6) + ((((q_X0_passMinute_G G R sh (L 3) (L 2)) 3) * ((q_X0_passMinute_G G R sh (L 3) (L 2)) 0)) + (((q_X0_passMinute_G I R sh (L 3) (L 2)) 3) * ((q_X0_passMinute_G I R sh (L 3) (L 2)) 0))))) R) then (r_X2_pressureBehind (l7 (L 2) (L 3) (L 4) ((((q_X0_passMinute_G G R sh (L 3) (L 2)) 3) * ((q_X0_passMinute_G G R sh (L 3) (L 2)) 0)) + (((q_X0_passMinute_G I R sh (L 3) (L 2)) 3) * ((q_X0_passMinute_G I R sh (L 3) (L 2)) 0))) ((L 6) + ((((q_X0_passMinute_G G R sh (L 3) (L 2)) 3) * ((q_X0_passMinute_G G R sh (L 3) (L 2)) 0)) + (((q_X0_passMinute_G I R sh (L 3) (L 2)) 3) * ((q_X0_passMinute_G I R sh (L 3) (L 2)) 0))))) R) else se)) C hP igX2 rfl 3 (by decide) wd_1_84 0 rfl rfl dX2_passMinute_101 ?_
  refine kmax C hl wd_1_227 wd_1_206 wd_1_8 wd_1_207 ⟨by decide, Nat.le_of_ble_eq_true rfl⟩ ⟨Nat.le_refl _, Nat.le_refl _⟩ dX2_passMinute_104 ?_
  refine kput (ty := .int) (ws' := [lc al ag ai (l7 (L 2) (if se < (r_X2_pressureBehind (l7 (L 2) (L 3) (L 4) ((((q_X0_passMinute_G G R sh (L 3) (L 2)) 3) * ((q_X0_passMinute_G G R sh (L 3) (L 2)) 0)) + (((q_X0_passMinute_G I R sh (L 3) (L 2)) 3) * ((q_X0_passMinute_G I R sh (L 3) (L 2)) 0))) ((L 6) + ((((q_X0_passMinute_G G R sh (L 3) (L 2)) 3) * ((q_X0_passMinute_G G R sh (L 3) (L 2)) 0)) + (((q_X0_passMinute_G I R sh (L 3) (L 2)) 3) * ((q_X0_passMinute_G I R sh (L 3) (L 2)) 0))))) R) then (r_X2_pressureBehind (l7 (L 2) (L 3) (L 4) ((((q_X0_passMinute_G G R sh (L 3) (L 2)) 3) * ((q_X0_passMinute_G G R sh (L 3) (L 2)) 0)) + (((q_X0_passMinute_G I R sh (L 3) (L 2)) 3) * ((q_X0_passMinute_G I R sh (L 3) (L 2)) 0))) ((L 6) + ((((q_X0_passMinute_G G R sh (L 3) (L 2)) 3) * ((q_X0_passMinute_G G R sh (L 3) (L 2)) 0)) + (((q_X0_passMinute_G I R sh (L 3) (L 2)) 3) * ((q_X0_passMinute_G I R sh (L 3) (L 2)) 0))))) R) else se) (if (L 4) < (if se < (r_X2_pressureBehind (l7 (L 2) (L 3) (L 4) ((((q_X0_passMinute_G G R sh (L 3) (L 2)) 3) * ((q_X0_passMinute_G G R sh (L 3) (L 2)) 0)) + (((q_X0_passMinute_G I R sh (L 3) (L 2)) 3) * ((q_X0_passMinute_G I R sh (L 3) (L 2)) 0))) ((L 6) + ((((q_X0_passMinute_G G R sh (L 3) (L 2)) 3) * ((q_X0_passMinute_G G R sh (L 3) (L 2)) 0)) + (((q_X0_passMinute_G I R sh (L 3) (L 2)) 3) * ((q_X0_passMinute_G I R sh (L 3) (L 2)) 0))))) R) then (r_X2_pressureBehind (l7 (L 2) (L 3) (L 4) ((((q_X0_passMinute_G G R sh (L 3) (L 2)) 3) * ((q_X0_passMinute_G G R sh (L 3) (L 2)) 0)) + (((q_X0_passMinute_G I R sh (L 3) (L 2)) 3) * ((q_X0_passMinute_G I R sh (L 3) (L 2)) 0))) ((L 6) + ((((q_X0_passMinute_G G R sh (L 3) (L 2)) 3) * ((q_X0_passMinute_G G R sh (L 3) (L 2)) 0)) + (((q_X0_passMinute_G I R sh (L 3) (L 2)) 3) * ((q_X0_passMinute_G I R sh (L 3) (L 2)) 0))))) R) else se) then (if se < (r_X2_pressureBehind (l7 (L 2) (L 3) (L 4) ((((q_X0_passMinute_G G R sh (L 3) (L 2)) 3) * ((q_X0_passMinute_G G R sh (L 3) (L 2)) 0)) + (((q_X0_passMinute_G I R sh (L 3) (L 2)) 3) * ((q_X0_passMinute_G I R sh (L 3) (L 2)) 0))) ((L 6) + ((((q_X0_passMinute_G G R sh (L 3) (L 2)) 3) * ((q_X0_passMinute_G G R sh (L 3) (L 2)) 0)) + (((q_X0_passMinute_G I R sh (L 3) (L 2)) 3) * ((q_X0_passMinute_G I R sh (L 3) (L 2)) 0))))) R) then (r_X2_pressureBehind (l7 (L 2) (L 3) (L 4) ((((q_X0_passMinute_G G R sh (L 3) (L 2)) 3) * ((q_X0_passMinute_G G R sh (L 3) (L 2)) 0)) + (((q_X0_passMinute_G I R sh (L 3) (L 2)) 3) * ((q_X0_passMinute_G I R sh (L 3) (L 2)) 0))) ((L 6) + ((((q_X0_passMinute_G G R sh (L 3) (L 2)) 3) * ((q_X0_passMinute_G G R sh (L 3) (L 2)) 0)) + (((q_X0_passMinute_G I R sh (L 3) (L 2)) 3) * ((q_X0_passMinute_G I R sh (L 3) (L 2)) 0))))) R) else se) else (L 4)) ((((q_X0_passMinute_G G R sh (L 3) (L 2)) 3) * ((q_X0_passMinute_G G R sh (L 3) (L 2)) 0)) + (((q_X0_passMinute_G I R sh (L 3) (L 2)) 3) * ((q_X0_passMinute_G I R sh (L 3) (L 2)) 0))) ((L 6) + ((((q_X0_passMinute_G G R sh (L 3) (L 2)) 3) * ((q_X0_passMinute_G G R sh (L 3) (L 2)) 0)) + (((q_X0_passMinute_G I R sh (L 3) (L 2)) 3) * ((q_X0_passMinute_G I R sh (L 3) (L 2)) 0))))), gc ag (q_X0_passMinute_G G R sh (L 3) (L 2)), gc ai (q_X0_passMinute_G I R sh (L 3) (L 2)), rc ar av, ac cI av 11 R]) C hP hD hS igX2 tyX2_ok nmX2 rfl 4 (by decide) wd_1_85 rfl rfl rfl rfl 0 rfl (Nat.le_of_ble_eq_true rfl) rfl dX2_passMinute_107 (fun H locs hP hD hS => ?_)
  refine lv_aload_n hx hb dX2_passMinute_110 rfl (lv_at hl 0 rfl) ?_
  refine lv_dup hx hb dX2_passMinute_111 rfl ?_
  refine kget (v := .int (L 2)) C hP igX2 rfl 2 (by decide) wd_1_81 0 rfl rfl dX2_passMinute_112 ?_
  refine lv_iconst (v := 1) hx hb dX2_passMinute_115 (by decide) ?_
  refine lv_iadd hx hb dX2_passMinute_116 ?_
  refine kput (ty := .int) (ws' := [lc al ag ai (l7 ((L 2) + 1) (if se < (r_X2_pressureBehind (l7 (L 2) (L 3) (L 4) ((((q_X0_passMinute_G G R sh (L 3) (L 2)) 3) * ((q_X0_passMinute_G G R sh (L 3) (L 2)) 0)) + (((q_X0_passMinute_G I R sh (L 3) (L 2)) 3) * ((q_X0_passMinute_G I R sh (L 3) (L 2)) 0))) ((L 6) + ((((q_X0_passMinute_G G R sh (L 3) (L 2)) 3) * ((q_X0_passMinute_G G R sh (L 3) (L 2)) 0)) + (((q_X0_passMinute_G I R sh (L 3) (L 2)) 3) * ((q_X0_passMinute_G I R sh (L 3) (L 2)) 0))))) R) then (r_X2_pressureBehind (l7 (L 2) (L 3) (L 4) ((((q_X0_passMinute_G G R sh (L 3) (L 2)) 3) * ((q_X0_passMinute_G G R sh (L 3) (L 2)) 0)) + (((q_X0_passMinute_G I R sh (L 3) (L 2)) 3) * ((q_X0_passMinute_G I R sh (L 3) (L 2)) 0))) ((L 6) + ((((q_X0_passMinute_G G R sh (L 3) (L 2)) 3) * ((q_X0_passMinute_G G R sh (L 3) (L 2)) 0)) + (((q_X0_passMinute_G I R sh (L 3) (L 2)) 3) * ((q_X0_passMinute_G I R sh (L 3) (L 2)) 0))))) R) else se) (if (L 4) < (if se < (r_X2_pressureBehind (l7 (L 2) (L 3) (L 4) ((((q_X0_passMinute_G G R sh (L 3) (L 2)) 3) * ((q_X0_passMinute_G G R sh (L 3) (L 2)) 0)) + (((q_X0_passMinute_G I R sh (L 3) (L 2)) 3) * ((q_X0_passMinute_G I R sh (L 3) (L 2)) 0))) ((L 6) + ((((q_X0_passMinute_G G R sh (L 3) (L 2)) 3) * ((q_X0_passMinute_G G R sh (L 3) (L 2)) 0)) + (((q_X0_passMinute_G I R sh (L 3) (L 2)) 3) * ((q_X0_passMinute_G I R sh (L 3) (L 2)) 0))))) R) then (r_X2_pressureBehind (l7 (L 2) (L 3) (L 4) ((((q_X0_passMinute_G G R sh (L 3) (L 2)) 3) * ((q_X0_passMinute_G G R sh (L 3) (L 2)) 0)) + (((q_X0_passMinute_G I R sh (L 3) (L 2)) 3) * ((q_X0_passMinute_G I R sh (L 3) (L 2)) 0))) ((L 6) + ((((q_X0_passMinute_G G R sh (L 3) (L 2)) 3) * ((q_X0_passMinute_G G R sh (L 3) (L 2)) 0)) + (((q_X0_passMinute_G I R sh (L 3) (L 2)) 3) * ((q_X0_passMinute_G I R sh (L 3) (L 2)) 0))))) R) else se) then (if se < (r_X2_pressureBehind (l7 (L 2) (L 3) (L 4) ((((q_X0_passMinute_G G R sh (L 3) (L 2)) 3) * ((q_X0_passMinute_G G R sh (L 3) (L 2)) 0)) + (((q_X0_passMinute_G I R sh (L 3) (L 2)) 3) * ((q_X0_passMinute_G I R sh (L 3) (L 2)) 0))) ((L 6) + ((((q_X0_passMinute_G G R sh (L 3) (L 2)) 3) * ((q_X0_passMinute_G G R sh (L 3) (L 2)) 0)) + (((q_X0_passMinute_G I R sh (L 3) (L 2)) 3) * ((q_X0_passMinute_G I R sh (L 3) (L 2)) 0))))) R) then (r_X2_pressureBehind (l7 (L 2) (L 3) (L 4) ((((q_X0_passMinute_G G R sh (L 3) (L 2)) 3) * ((q_X0_passMinute_G G R sh (L 3) (L 2)) 0)) + (((q_X0_passMinute_G I R sh (L 3) (L 2)) 3) * ((q_X0_passMinute_G I R sh (L 3) (L 2)) 0))) ((L 6) + ((((q_X0_passMinute_G G R sh (L 3) (L 2)) 3) * ((q_X0_passMinute_G G R sh (L 3) (L 2)) 0)) + (((q_X0_passMinute_G I R sh (L 3) (L 2)) 3) * ((q_X0_passMinute_G I R sh (L 3) (L 2)) 0))))) R) else se) else (L 4)) ((((q_X0_passMinute_G G R sh (L 3) (L 2)) 3) * ((q_X0_passMinute_G G R sh (L 3) (L 2)) 0)) + (((q_X0_passMinute_G I R sh (L 3) (L 2)) 3) * ((q_X0_passMinute_G I R sh (L 3) (L 2)) 0))) ((L 6) + ((((q_X0_passMinute_G G R sh (L 3) (L 2)) 3) * ((q_X0_passMinute_G G R sh (L 3) (L 2)) 0)) + (((q_X0_passMinute_G I R sh (L 3) (L 2)) 3) * ((q_X0_passMinute_G I R sh (L 3) (L 2)) 0))))), gc ag (q_X0_passMinute_G G R sh (L 3) (L 2)), gc ai (q_X0_passMinute_G I R sh (L 3) (L 2)), rc ar av, ac cI av 11 R]) C hP hD hS igX2 tyX2_ok nmX2 rfl 2 (by decide) wd_1_81 rfl rfl rfl rfl 0 rfl (Nat.le_of_ble_eq_true rfl) rfl dX2_passMinute_117 (fun H locs hP hD hS => ?_)
  exact hend _ _ _ _ (by rw [← ho_L, q_X2_passMinute_L, ← ho_G, q_X2_passMinute_G, ← ho_I, q_X2_passMinute_I]; exact hP) hS dX2_passMinute_120
