theorem in48 {w i : Int32} (hw : w = 0 ∨ w = 1) (hi : vp_in i 24) : vp_in ((24 * w) + i) 48 := by
  have hi := vp_in_iff.mp hi
  have e24 : (24 : Int32).toInt = 24 := rfl
  have e0 : ((24 : Int32) * 0).toInt = 0 := by decide
  have e1 : ((24 : Int32) * 1).toInt = 24 := by decide
  rcases hw with rfl | rfl
  · exact vp_in_iff.mpr (by rw [addI (by omega) (by omega), e0]; omega)
  · exact vp_in_iff.mpr (by rw [addI (by omega) (by omega), e1]; omega)
theorem in2 {w : Int32} (hw : w = 0 ∨ w = 1) : vp_in w 2 := by
  rcases hw with rfl | rfl
  · exact vp_in_iff.mpr (by decide)
  · exact vp_in_iff.mpr (by decide)
theorem in_to48 {i : Int32} (hi : vp_in i 24) : vp_in i 48 := by
  have hi := vp_in_iff.mp hi
  exact vp_in_iff.mpr (by omega)
theorem ltV {v i : Int32} (c : ¬ v ≤ i) : i.toInt < v.toInt := by
  have c1 : ¬ v.toInt ≤ i.toInt := fun h => c ((tI_le v i).mpr h)
  omega
theorem inV {v i : Int32} (h0 : 0 ≤ i.toInt) (hv : v.toInt ≤ 24) (c : ¬ v ≤ i) : vp_in i 24 := by
  have c1 : ¬ v.toInt ≤ i.toInt := fun h => c ((tI_le v i).mpr h)
  exact vp_in_iff.mpr (by omega)
theorem inc0 {v i : Int32} (h0 : 0 ≤ i.toInt) (c : ¬ v ≤ i) : 0 ≤ (i + 1).toInt := by
  have c1 : ¬ v.toInt ≤ i.toInt := fun h => c ((tI_le v i).mpr h)
  have e1 : (1 : Int32).toInt = 1 := rfl
  have := rng v
  rw [addI (by omega) (by omega)]; omega
theorem inFill {w i : Int32} (hw : w = 0 ∨ w = 1) (h0 : (24 * w).toInt ≤ i.toInt) (c : ¬ (24 * w) + 24 ≤ i) : vp_in i 48 := by
  have c1 : ¬ ((24 * w) + 24).toInt ≤ i.toInt := fun h => c ((tI_le _ i).mpr h)
  have e0 : ((24 : Int32) * 0).toInt = 0 := by decide
  have e1 : ((24 : Int32) * 1).toInt = 24 := by decide
  have f0 : (((24 : Int32) * 0) + 24).toInt = 24 := by decide
  have f1 : (((24 : Int32) * 1) + 24).toInt = 48 := by decide
  rcases hw with rfl | rfl <;> exact vp_in_iff.mpr (by omega)
theorem incFill {w i : Int32} (hw : w = 0 ∨ w = 1) (h0 : (24 * w).toInt ≤ i.toInt) (c : ¬ (24 * w) + 24 ≤ i) : (24 * w).toInt ≤ (i + 1).toInt := by
  have h := vp_in_iff.mp (inFill hw h0 c)
  have e1 : (1 : Int32).toInt = 1 := rfl
  rw [addI (by omega) (by omega)]; omega
theorem idx_ne {w i x : Int32} (hw : w = 0 ∨ w = 1) (hi : vp_in i 24) (hx : vp_in x 24) (h : i.toInt < x.toInt) : ¬ Int32.toNatClampNeg ((24 * w) + x) = Int32.toNatClampNeg ((24 * w) + i) := by
  have a1 := vp_in_iff.mp (in48 hw hi)
  have a2 := vp_in_iff.mp (in48 hw hx)
  have b1 := vp_in_iff.mp hi
  have b2 := vp_in_iff.mp hx
  have e0 : ((24 : Int32) * 0).toInt = 0 := by decide
  have e1 : ((24 : Int32) * 1).toInt = 24 := by decide
  have k1 : Int32.toNatClampNeg ((24 * w) + x) = ((24 * w) + x).toInt.toNat := rfl
  have k2 : Int32.toNatClampNeg ((24 * w) + i) = ((24 * w) + i).toInt.toNat := rfl
  rw [k1, k2]
  rcases hw with rfl | rfl
  · rw [addI (by omega) (by omega), addI (by omega) (by omega)]; omega
  · rw [addI (by omega) (by omega), addI (by omega) (by omega)]; omega
theorem mid_in {lo hi : Int32} (h : -600 ≤ lo.toInt ∧ lo.toInt ≤ hi.toInt ∧ hi.toInt ≤ 0) (c : ¬ hi ≤ lo) : (lo + (((hi - lo) + 1) / 2)).toInt = lo.toInt + (hi.toInt - lo.toInt + 1) / 2 := by
  have c1 : ¬ hi.toInt ≤ lo.toInt := fun z => c ((tI_le hi lo).mpr z)
  have e1 : (1 : Int32).toInt = 1 := rfl
  have s1 : (hi - lo).toInt = hi.toInt - lo.toInt := subI (by omega) (by omega)
  have s2 : ((hi - lo) + 1).toInt = hi.toInt - lo.toInt + 1 := by rw [addI (by omega) (by omega), s1, e1]
  obtain ⟨j, hj, ej⟩ := nI_of (x := (hi - lo) + 1) (fun z => by have := (tI_lt _ 0).mp z; have e : (0 : Int32).toInt = 0 := rfl; omega)
  have hjj : (j : Int) = hi.toInt - lo.toInt + 1 := by rw [← s2, ej, nI_toInt hj]
  have s3 : (((hi - lo) + 1) / 2).toInt = (hi.toInt - lo.toInt + 1) / 2 := by
    rw [ej, show (2 : Int32) = nI 2 from rfl, pk_div hj (by decide) (by decide), nI_toInt (by omega)]
    omega
  rw [addI (by omega) (by omega), s3]
theorem mid_lo {lo hi : Int32} {n : Nat} (h : -600 ≤ lo.toInt ∧ lo.toInt ≤ hi.toInt ∧ hi.toInt ≤ 0) (c : ¬ hi ≤ lo) (hm : (hi.toInt - lo.toInt).toNat < n + 1) : (hi.toInt - (lo + (((hi - lo) + 1) / 2)).toInt).toNat < n := by
  have c1 : ¬ hi.toInt ≤ lo.toInt := fun z => c ((tI_le hi lo).mpr z)
  rw [mid_in h c]; omega
theorem mid_lo_in {lo hi : Int32} (h : -600 ≤ lo.toInt ∧ lo.toInt ≤ hi.toInt ∧ hi.toInt ≤ 0) (c : ¬ hi ≤ lo) : -600 ≤ (lo + (((hi - lo) + 1) / 2)).toInt ∧ (lo + (((hi - lo) + 1) / 2)).toInt ≤ hi.toInt ∧ hi.toInt ≤ 0 := by
  have c1 : ¬ hi.toInt ≤ lo.toInt := fun z => c ((tI_le hi lo).mpr z)
  rw [mid_in h c]; omega
theorem mid_hi_eq {lo hi : Int32} (h : -600 ≤ lo.toInt ∧ lo.toInt ≤ hi.toInt ∧ hi.toInt ≤ 0) (c : ¬ hi ≤ lo) : ((lo + (((hi - lo) + 1) / 2)) - 1).toInt = lo.toInt + (hi.toInt - lo.toInt + 1) / 2 - 1 := by
  have c1 : ¬ hi.toInt ≤ lo.toInt := fun z => c ((tI_le hi lo).mpr z)
  have e1 : (1 : Int32).toInt = 1 := rfl
  have := mid_in h c
  rw [subI (by omega) (by omega), this, e1]
theorem mid_hi {lo hi : Int32} {n : Nat} (h : -600 ≤ lo.toInt ∧ lo.toInt ≤ hi.toInt ∧ hi.toInt ≤ 0) (c : ¬ hi ≤ lo) (hm : (hi.toInt - lo.toInt).toNat < n + 1) : (((lo + (((hi - lo) + 1) / 2)) - 1).toInt - lo.toInt).toNat < n := by
  have c1 : ¬ hi.toInt ≤ lo.toInt := fun z => c ((tI_le hi lo).mpr z)
  rw [mid_hi_eq h c]; omega
theorem mid_hi_in {lo hi : Int32} (h : -600 ≤ lo.toInt ∧ lo.toInt ≤ hi.toInt ∧ hi.toInt ≤ 0) (c : ¬ hi ≤ lo) : -600 ≤ lo.toInt ∧ lo.toInt ≤ ((lo + (((hi - lo) + 1) / 2)) - 1).toInt ∧ ((lo + (((hi - lo) + 1) / 2)) - 1).toInt ≤ 0 := by
  have c1 : ¬ hi.toInt ≤ lo.toInt := fun z => c ((tI_le hi lo).mpr z)
  rw [mid_hi_eq h c]; omega
def r_X5_in (v : Int64) (a0 : Int64) (b0 : Int64) : Int32 := (if (lg_cmp v a0) < 0 then 0 else (if 0 < (lg_cmp v b0) then 0 else 1))
theorem ck_X5_in : CK yX5_in cX5_in 6 (some .boolean) 3 := ⟨wd_2_217, wd_1_7, by decide, by decide, by decide +kernel⟩
theorem b_X5_in (v : Int64) (a0 : Int64) (b0 : Int64) : (r_X5_in v a0 b0) = 0 ∨ (r_X5_in v a0 b0) = 1 := by
  unfold r_X5_in
  repeat' split
  all_goals first | exact Or.inl rfl | exact Or.inr rfl | exact b_X4_within _ _ _
set_option maxHeartbeats 4000000 in
set_option maxRecDepth 100000 in
theorem c_X5_in (l : Launch) (D : va_G) (cI : ClassId) (v : Int64) (a0 : Int64) (b0 : Int64) : MI l D cI yX5_in cX5_in 6 (some .boolean) 0 0 [.long v, .long a0, .long b0] [] (r_X5_in v a0 b0) [] := by
  have hn : narrow .boolean (.int (r_X5_in v a0 b0)) = .int (r_X5_in v a0 b0) := nb (b_X5_in v a0 b0)
  generalize hr : (r_X5_in v a0 b0) = r at hn ⊢
  refine MI.mk (own := RX5) rfl (by decide) hn (Nat.le_of_ble_eq_true rfl) ?_
  intro p e s m args below meth c A Q C hD hend H locs ls hP hS hl
  have hx := C.1.1
  have hb := C.1.2.1
  have hl : lv_has ls 6 [(0, .long v), (2, .long a0), (4, .long b0)] := hl
  refine lv_lload_n hx hb dX5_in_0 rfl (lv_at hl 0 rfl) ?_
  refine lv_lload_n hx hb dX5_in_1 rfl (lv_at hl 1 rfl) ?_
  refine W.lcmp hx hb dX5_in_2 ?_
  refine lv_if_lt (tgt := 17) hx hb dX5_in_3 (by decide) (fun c1 => ?_) (fun c1 => ?_)
  · refine lv_iconst (v := 0) hx hb dX5_in_17 (by decide) ?_
    exact hend _ _ _ _ _ (by rw [← hr, r_X5_in, if_pos c1]) hP hS dX5_in_18
  · refine lv_lload_n hx hb dX5_in_6 rfl (lv_at hl 0 rfl) ?_
    refine lv_lload hx hb dX5_in_7 (lv_at hl 2 rfl) ?_
    refine W.lcmp hx hb dX5_in_9 ?_
    refine lv_if_gt (tgt := 17) hx hb dX5_in_10 (by decide) (fun c2 => ?_) (fun c2 => ?_)
    · refine lv_iconst (v := 0) hx hb dX5_in_17 (by decide) ?_
      exact hend _ _ _ _ _ (by rw [← hr, r_X5_in, if_neg c1, if_pos c2]) hP hS dX5_in_18
    · refine lv_iconst (v := 1) hx hb dX5_in_13 (by decide) ?_
      refine lv_goto (tgt := 18) hx hb dX5_in_14 (by decide) ?_
      exact hend _ _ _ _ _ (by rw [← hr, r_X5_in, if_neg c1, if_neg c2]) hP hS dX5_in_18
def r_X5_vials (Y : Nat → Int32) : Int32 := ((Y 0) * (Y 1))
theorem ck_X5_vials : CK yX5_vials cX5_vials 1 (some .int) 0 := ⟨wd_2_222, wd_1_7, by decide, by decide, by decide +kernel⟩
set_option maxHeartbeats 4000000 in
set_option maxRecDepth 100000 in
theorem c_X5_vials (l : Launch) (D : va_G) (cI : ClassId) (a : Nat → Nat) (Y : Nat → Int32) : MI l D cI yX5_vials cX5_vials 1 (some .int) 0 0 [.ref (a 0)] [yc a Y] (r_X5_vials Y) [yc a Y] := by
  generalize hr : (r_X5_vials Y) = r
  refine MI.mk (own := RX5) rfl (by decide) rfl (Nat.le_of_ble_eq_true rfl) ?_
  intro p e s m args below meth c A Q C hD hend H locs ls hP hS hl
  have hx := C.1.1
  have hb := C.1.2.1
  have hl : lv_has ls 1 [(0, .ref (a 0))] := hl
  refine lv_aload_n hx hb dX5_vials_0 rfl (lv_at hl 0 rfl) ?_
  refine kget (v := .int (Y 0)) C hP igX5 rfl 0 (by decide) wd_2_146 0 rfl rfl dX5_vials_1 ?_
  refine lv_aload_n hx hb dX5_vials_4 rfl (lv_at hl 0 rfl) ?_
  refine kget (v := .int (Y 1)) C hP igX5 rfl 1 (by decide) wd_2_147 0 rfl rfl dX5_vials_5 ?_
  refine lv_imul hx hb dX5_vials_8 ?_
  exact hend _ _ _ _ _ (by rw [← hr, r_X5_vials]) hP hS dX5_vials_9
/-- what bars steam is never 0, of the vials from x on -/
def okB (Y ru ic : Nat → Int32) (w lo : Int32) : Prop := ∀ x : Int32, lo.toInt ≤ x.toInt → x.toInt < (r_X5_vials Y).toInt → ¬ ((ru 4) + ((ru 5) * ((100 * ((ru 0) - (ic (Int32.toNatClampNeg ((24 * w) + x))))) / (ru 0)))) = 0
theorem okB_next {Y ru ic : Nat → Int32} {w i v : Int32} (h0 : 0 ≤ i.toInt) (c : ¬ v ≤ i) (h : okB Y ru ic w i) : okB Y ru ic w (i + 1) := by
  have c1 : ¬ v.toInt ≤ i.toInt := fun h => c ((tI_le v i).mpr h)
  have e1 : (1 : Int32).toInt = 1 := rfl
  have := rng v
  intro x h1 h2
  rw [addI (by omega) (by omega)] at h1
  exact h x (by omega) h2
theorem okB_upd {Y ru ic : Nat → Int32} {w i z : Int32} (hw : w = 0 ∨ w = 1) (h0 : 0 ≤ i.toInt) (hv : (r_X5_vials Y).toInt ≤ 24) (c : ¬ (r_X5_vials Y) ≤ i) (h : okB Y ru ic w i) : okB Y ru (upd ic (Int32.toNatClampNeg ((24 * w) + i)) z) w (i + 1) := by
  have hi := inV h0 hv c
  have bi := vp_in_iff.mp hi
  have e1 : (1 : Int32).toInt = 1 := rfl
  intro x h1 h2
  rw [addI (by omega) (by omega)] at h1
  rw [pk_un (idx_ne hw hi (vp_in_iff.mpr (by omega)) (by omega))]
  exact h x (by omega) h2
def r_X5_leastOf (k : Int32) : Int32 := (if k = 0 then 100 else (if k = 1 then 1 else (if k = 2 then 0 else (if k = 3 then 1 else (if k = 4 then 10 else (if k = 5 then 0 else (if k = 6 then (-600) else 1)))))))
theorem ck_X5_leastOf : CK yX5_leastOf cX5_leastOf 1 (some .int) 1 := ⟨wd_2_230, wd_1_7, by decide, by decide, by decide +kernel⟩
set_option maxHeartbeats 4000000 in
set_option maxRecDepth 100000 in
theorem c_X5_leastOf (l : Launch) (D : va_G) (cI : ClassId) (k : Int32) : MI l D cI yX5_leastOf cX5_leastOf 1 (some .int) 0 0 [.int k] [] (r_X5_leastOf k) [] := by
  generalize hr : (r_X5_leastOf k) = r
  refine MI.mk (own := RX5) rfl (by decide) rfl (Nat.le_of_ble_eq_true rfl) ?_
  intro p e s m args below meth c A Q C hD hend H locs ls hP hS hl
  have hx := C.1.1
  have hb := C.1.2.1
  have hl : lv_has ls 1 [(0, .int k)] := hl
  refine lv_iload_n hx hb dX5_leastOf_0 rfl (lv_at hl 0 rfl) ?_
  by_cases c1 : k = 0
  · refine lv_tableIn (off := 43) (tgt := 44) hx hb dX5_leastOf_1 (by rw [c1]; decide) (by rw [c1]; decide) (by rw [c1]; rfl) (by decide) ?_
    refine lv_bipush (v := 100) hx hb dX5_leastOf_44 (by decide) ?_
    exact hend _ _ _ _ _ (by rw [← hr, r_X5_leastOf, if_pos c1]) hP hS dX5_leastOf_46
  · skip
    by_cases c2 : k = 1
    · refine lv_tableIn (off := 57) (tgt := 58) hx hb dX5_leastOf_1 (by rw [c2]; decide) (by rw [c2]; decide) (by rw [c2]; rfl) (by decide) ?_
      refine lv_iconst (v := 1) hx hb dX5_leastOf_58 (by decide) ?_
      exact hend _ _ _ _ _ (by rw [← hr, r_X5_leastOf, if_neg c1, if_pos c2]) hP hS dX5_leastOf_59
    · skip
      by_cases c3 : k = 2
      · refine lv_tableIn (off := 53) (tgt := 54) hx hb dX5_leastOf_1 (by rw [c3]; decide) (by rw [c3]; decide) (by rw [c3]; rfl) (by decide) ?_
        refine lv_iconst (v := 0) hx hb dX5_leastOf_54 (by decide) ?_
        exact hend _ _ _ _ _ (by rw [← hr, r_X5_leastOf, if_neg c1, if_neg c2, if_pos c3]) hP hS dX5_leastOf_55
      · skip
        by_cases c4 : k = 3
        · refine lv_tableIn (off := 57) (tgt := 58) hx hb dX5_leastOf_1 (by rw [c4]; decide) (by rw [c4]; decide) (by rw [c4]; rfl) (by decide) ?_
          refine lv_iconst (v := 1) hx hb dX5_leastOf_58 (by decide) ?_
          exact hend _ _ _ _ _ (by rw [← hr, r_X5_leastOf, if_neg c1, if_neg c2, if_neg c3, if_pos c4]) hP hS dX5_leastOf_59
        · skip
          by_cases c5 : k = 4
          · refine lv_tableIn (off := 46) (tgt := 47) hx hb dX5_leastOf_1 (by rw [c5]; decide) (by rw [c5]; decide) (by rw [c5]; rfl) (by decide) ?_
            refine lv_bipush (v := 10) hx hb dX5_leastOf_47 (by decide) ?_
            exact hend _ _ _ _ _ (by rw [← hr, r_X5_leastOf, if_neg c1, if_neg c2, if_neg c3, if_neg c4, if_pos c5]) hP hS dX5_leastOf_49
          · skip
            by_cases c6 : k = 5
            · refine lv_tableIn (off := 55) (tgt := 56) hx hb dX5_leastOf_1 (by rw [c6]; decide) (by rw [c6]; decide) (by rw [c6]; rfl) (by decide) ?_
              refine lv_iconst (v := 0) hx hb dX5_leastOf_56 (by decide) ?_
              exact hend _ _ _ _ _ (by rw [← hr, r_X5_leastOf, if_neg c1, if_neg c2, if_neg c3, if_neg c4, if_neg c5, if_pos c6]) hP hS dX5_leastOf_57
            · skip
              by_cases c7 : k = 6
              · refine lv_tableIn (off := 49) (tgt := 50) hx hb dX5_leastOf_1 (by rw [c7]; decide) (by rw [c7]; decide) (by rw [c7]; rfl) (by decide) ?_
                refine lv_sipush (v := (-600)) hx hb dX5_leastOf_50 (by decide) ?_
                exact hend _ _ _ _ _ (by rw [← hr, r_X5_leastOf, if_neg c1, if_neg c2, if_neg c3, if_neg c4, if_neg c5, if_neg c6, if_pos c7]) hP hS dX5_leastOf_53
              · skip
                refine lv_tableOut (tgt := 58) hx hb dX5_leastOf_1 (ts_out (fun k h1 h2 => by rcases (by omega : k = 0 ∨ k = 1 ∨ k = 2 ∨ k = 3 ∨ k = 4 ∨ k = 5 ∨ k = 6) with rfl | rfl | rfl | rfl | rfl | rfl | rfl <;> assumption)) (by decide) ?_
                refine lv_iconst (v := 1) hx hb dX5_leastOf_58 (by decide) ?_
                exact hend _ _ _ _ _ (by rw [← hr, r_X5_leastOf, if_neg c1, if_neg c2, if_neg c3, if_neg c4, if_neg c5, if_neg c6, if_neg c7]) hP hS dX5_leastOf_59
def r_X5_mostOf (k : Int32) : Int32 := (if k = 0 then 5000 else (if k = 1 then 50 else (if k = 2 then 50 else (if k = 3 then 50 else (if k = 4 then 1000 else (if k = 5 then 50 else (if k = 6 then 0 else (if k = 7 then 10000 else (if k = 8 then 100 else (if k = 9 then 500 else (if k = 10 then 1000 else 50)))))))))))
theorem ck_X5_mostOf : CK yX5_mostOf cX5_mostOf 1 (some .int) 1 := ⟨wd_2_233, wd_1_7, by decide, by decide, by decide +kernel⟩
set_option maxHeartbeats 4000000 in
set_option maxRecDepth 100000 in
theorem c_X5_mostOf (l : Launch) (D : va_G) (cI : ClassId) (k : Int32) : MI l D cI yX5_mostOf cX5_mostOf 1 (some .int) 0 0 [.int k] [] (r_X5_mostOf k) [] := by
  generalize hr : (r_X5_mostOf k) = r
  refine MI.mk (own := RX5) rfl (by decide) rfl (Nat.le_of_ble_eq_true rfl) ?_
  intro p e s m args below meth c A Q C hD hend H locs ls hP hS hl
  have hx := C.1.1
  have hb := C.1.2.1
  have hl : lv_has ls 1 [(0, .int k)] := hl
  refine lv_iload_n hx hb dX5_mostOf_0 rfl (lv_at hl 0 rfl) ?_
  by_cases c1 : k = 0
  · refine lv_tableIn (off := 59) (tgt := 60) hx hb dX5_mostOf_1 (by rw [c1]; decide) (by rw [c1]; decide) (by rw [c1]; rfl) (by decide) ?_
    refine lv_sipush (v := 5000) hx hb dX5_mostOf_60 (by decide) ?_
    exact hend _ _ _ _ _ (by rw [← hr, r_X5_mostOf, if_pos c1]) hP hS dX5_mostOf_63
  · skip
    by_cases c2 : k = 1
    · refine lv_tableIn (off := 84) (tgt := 85) hx hb dX5_mostOf_1 (by rw [c2]; decide) (by rw [c2]; decide) (by rw [c2]; rfl) (by decide) ?_
      refine lv_bipush (v := 50) hx hb dX5_mostOf_85 (by decide) ?_
      exact hend _ _ _ _ _ (by rw [← hr, r_X5_mostOf, if_neg c1, if_pos c2]) hP hS dX5_mostOf_87
    · skip
      by_cases c3 : k = 2
      · refine lv_tableIn (off := 84) (tgt := 85) hx hb dX5_mostOf_1 (by rw [c3]; decide) (by rw [c3]; decide) (by rw [c3]; rfl) (by decide) ?_
        refine lv_bipush (v := 50) hx hb dX5_mostOf_85 (by decide) ?_
        exact hend _ _ _ _ _ (by rw [← hr, r_X5_mostOf, if_neg c1, if_neg c2, if_pos c3]) hP hS dX5_mostOf_87
      · skip
        by_cases c4 : k = 3
        · refine lv_tableIn (off := 84) (tgt := 85) hx hb dX5_mostOf_1 (by rw [c4]; decide) (by rw [c4]; decide) (by rw [c4]; rfl) (by decide) ?_
          refine lv_bipush (v := 50) hx hb dX5_mostOf_85 (by decide) ?_
          exact hend _ _ _ _ _ (by rw [← hr, r_X5_mostOf, if_neg c1, if_neg c2, if_neg c3, if_pos c4]) hP hS dX5_mostOf_87
        · skip
          by_cases c5 : k = 4
          · refine lv_tableIn (off := 63) (tgt := 64) hx hb dX5_mostOf_1 (by rw [c5]; decide) (by rw [c5]; decide) (by rw [c5]; rfl) (by decide) ?_
            refine lv_sipush (v := 1000) hx hb dX5_mostOf_64 (by decide) ?_
            exact hend _ _ _ _ _ (by rw [← hr, r_X5_mostOf, if_neg c1, if_neg c2, if_neg c3, if_neg c4, if_pos c5]) hP hS dX5_mostOf_67
          · skip
            by_cases c6 : k = 5
            · refine lv_tableIn (off := 84) (tgt := 85) hx hb dX5_mostOf_1 (by rw [c6]; decide) (by rw [c6]; decide) (by rw [c6]; rfl) (by decide) ?_
              refine lv_bipush (v := 50) hx hb dX5_mostOf_85 (by decide) ?_
              exact hend _ _ _ _ _ (by rw [← hr, r_X5_mostOf, if_neg c1, if_neg c2, if_neg c3, if_neg c4, if_neg c5, if_pos c6]) hP hS dX5_mostOf_87
            · skip
              by_cases c7 : k = 6
              · refine lv_tableIn (off := 67) (tgt := 68) hx hb dX5_mostOf_1 (by rw [c7]; decide) (by rw [c7]; decide) (by rw [c7]; rfl) (by decide) ?_
                refine lv_iconst (v := 0) hx hb dX5_mostOf_68 (by decide) ?_
                exact hend _ _ _ _ _ (by rw [← hr, r_X5_mostOf, if_neg c1, if_neg c2, if_neg c3, if_neg c4, if_neg c5, if_neg c6, if_pos c7]) hP hS dX5_mostOf_69
              · skip
                by_cases c8 : k = 7
                · refine lv_tableIn (off := 69) (tgt := 70) hx hb dX5_mostOf_1 (by rw [c8]; decide) (by rw [c8]; decide) (by rw [c8]; rfl) (by decide) ?_
                  refine lv_sipush (v := 10000) hx hb dX5_mostOf_70 (by decide) ?_
                  exact hend _ _ _ _ _ (by rw [← hr, r_X5_mostOf, if_neg c1, if_neg c2, if_neg c3, if_neg c4, if_neg c5, if_neg c6, if_neg c7, if_pos c8]) hP hS dX5_mostOf_73
                · skip
                  by_cases c9 : k = 8
                  · refine lv_tableIn (off := 73) (tgt := 74) hx hb dX5_mostOf_1 (by rw [c9]; decide) (by rw [c9]; decide) (by rw [c9]; rfl) (by decide) ?_
                    refine lv_bipush (v := 100) hx hb dX5_mostOf_74 (by decide) ?_
                    exact hend _ _ _ _ _ (by rw [← hr, r_X5_mostOf, if_neg c1, if_neg c2, if_neg c3, if_neg c4, if_neg c5, if_neg c6, if_neg c7, if_neg c8, if_pos c9]) hP hS dX5_mostOf_76
                  · skip
                    by_cases c10 : k = 9
                    · refine lv_tableIn (off := 76) (tgt := 77) hx hb dX5_mostOf_1 (by rw [c10]; decide) (by rw [c10]; decide) (by rw [c10]; rfl) (by decide) ?_
                      refine lv_sipush (v := 500) hx hb dX5_mostOf_77 (by decide) ?_
                      exact hend _ _ _ _ _ (by rw [← hr, r_X5_mostOf, if_neg c1, if_neg c2, if_neg c3, if_neg c4, if_neg c5, if_neg c6, if_neg c7, if_neg c8, if_neg c9, if_pos c10]) hP hS dX5_mostOf_80
                    · skip
                      by_cases c11 : k = 10
                      · refine lv_tableIn (off := 80) (tgt := 81) hx hb dX5_mostOf_1 (by rw [c11]; decide) (by rw [c11]; decide) (by rw [c11]; rfl) (by decide) ?_
                        refine lv_sipush (v := 1000) hx hb dX5_mostOf_81 (by decide) ?_
                        exact hend _ _ _ _ _ (by rw [← hr, r_X5_mostOf, if_neg c1, if_neg c2, if_neg c3, if_neg c4, if_neg c5, if_neg c6, if_neg c7, if_neg c8, if_neg c9, if_neg c10, if_pos c11]) hP hS dX5_mostOf_84
                      · skip
                        refine lv_tableOut (tgt := 85) hx hb dX5_mostOf_1 (ts_out (fun k h1 h2 => by rcases (by omega : k = 0 ∨ k = 1 ∨ k = 2 ∨ k = 3 ∨ k = 4 ∨ k = 5 ∨ k = 6 ∨ k = 7 ∨ k = 8 ∨ k = 9 ∨ k = 10) with rfl | rfl | rfl | rfl | rfl | rfl | rfl | rfl | rfl | rfl | rfl <;> assumption)) (by decide) ?_
                        refine lv_bipush (v := 50) hx hb dX5_mostOf_85 (by decide) ?_
                        exact hend _ _ _ _ _ (by rw [← hr, r_X5_mostOf, if_neg c1, if_neg c2, if_neg c3, if_neg c4, if_neg c5, if_neg c6, if_neg c7, if_neg c8, if_neg c9, if_neg c10, if_neg c11]) hP hS dX5_mostOf_87
def r_X5_bend (d : Int32) : Int32 := ((((d + 2) * (d + 2)) * (d + 2)) / 20)
theorem ck_X5_bend : CK yX5_bend cX5_bend 1 (some .int) 1 := ⟨wd_3_4, wd_1_7, by decide, by decide, by decide +kernel⟩
set_option maxHeartbeats 4000000 in
set_option maxRecDepth 100000 in
theorem c_X5_bend (l : Launch) (D : va_G) (cI : ClassId) (d : Int32) : MI l D cI yX5_bend cX5_bend 1 (some .int) 0 0 [.int d] [] (r_X5_bend d) [] := by
  generalize hr : (r_X5_bend d) = r
  refine MI.mk (own := RX5) rfl (by decide) rfl (Nat.le_of_ble_eq_true rfl) ?_
  intro p e s m args below meth c A Q C hD hend H locs ls hP hS hl
  have hx := C.1.1
  have hb := C.1.2.1
  have hl : lv_has ls 1 [(0, .int d)] := hl
  refine lv_iload_n hx hb dX5_bend_0 rfl (lv_at hl 0 rfl) ?_
  refine lv_iconst (v := 2) hx hb dX5_bend_1 (by decide) ?_
  refine lv_iadd hx hb dX5_bend_2 ?_
  refine lv_iload_n hx hb dX5_bend_3 rfl (lv_at hl 0 rfl) ?_
  refine lv_iconst (v := 2) hx hb dX5_bend_4 (by decide) ?_
  refine lv_iadd hx hb dX5_bend_5 ?_
  refine lv_imul hx hb dX5_bend_6 ?_
  refine lv_iload_n hx hb dX5_bend_7 rfl (lv_at hl 0 rfl) ?_
  refine lv_iconst (v := 2) hx hb dX5_bend_8 (by decide) ?_
  refine lv_iadd hx hb dX5_bend_9 ?_
  refine lv_imul hx hb dX5_bend_10 ?_
  refine lv_bipush (v := 20) hx hb dX5_bend_11 (by decide) ?_
  refine lv_idiv hx hb dX5_bend_13 (by decide) ?_
  exact hend _ _ _ _ _ (by rw [← hr, r_X5_bend]) hP hS dX5_bend_14
def r_X5_vapourAt (t : Int32) : Int32 := ((((r_X5_bend ((t - (-600)) / 10)) * (10 - ((t - (-600)) - (t - (-600)) / 10 * 10))) + ((r_X5_bend (((t - (-600)) / 10) + 1)) * ((t - (-600)) - (t - (-600)) / 10 * 10))) / 10)
theorem ck_X5_vapourAt : CK yX5_vapourAt cX5_vapourAt 3 (some .int) 1 := ⟨wd_3_1, wd_1_7, by decide, by decide, by decide +kernel⟩
set_option maxHeartbeats 4000000 in
set_option maxRecDepth 100000 in
theorem c_X5_vapourAt (l : Launch) (D : va_G) (cI : ClassId) (t : Int32) : MI l D cI yX5_vapourAt cX5_vapourAt 3 (some .int) 1 20 [.int t] [] (r_X5_vapourAt t) [] := by
  generalize hr : (r_X5_vapourAt t) = r
  refine MI.mk (own := RX5) rfl (by decide) rfl (Nat.le_of_ble_eq_true rfl) ?_
  intro p e s m args below meth c A Q C hD hend H locs ls hP hS hl
  have hx := C.1.1
  have hb := C.1.2.1
  have hl : lv_has ls 3 [(0, .int t)] := hl
  refine lv_iload_n hx hb dX5_vapourAt_0 rfl (lv_at hl 0 rfl) ?_
  refine lv_sipush (v := (-600)) hx hb dX5_vapourAt_1 (by decide) ?_
  refine lv_isub hx hb dX5_vapourAt_4 ?_
  refine lv_bipush (v := 10) hx hb dX5_vapourAt_5 (by decide) ?_
  refine lv_idiv hx hb dX5_vapourAt_7 (by decide) ?_
  refine lv_istore_n (lv' := [(1, .int ((t - (-600)) / 10)), (0, .int t)]) hx hb dX5_vapourAt_8 rfl hl (by decide) rfl (fun ls hl => ?_)
  refine lv_iload_n hx hb dX5_vapourAt_9 rfl (lv_at hl 1 rfl) ?_
  refine lv_sipush (v := (-600)) hx hb dX5_vapourAt_10 (by decide) ?_
  refine lv_isub hx hb dX5_vapourAt_13 ?_
  refine lv_bipush (v := 10) hx hb dX5_vapourAt_14 (by decide) ?_
  refine lv_irem hx hb dX5_vapourAt_16 (by decide) ?_
  refine lv_istore_n (lv' := [(2, .int ((t - (-600)) - (t - (-600)) / 10 * 10)), (1, .int ((t - (-600)) / 10)), (0, .int t)]) hx hb dX5_vapourAt_17 rfl hl (by decide) rfl (fun ls hl => ?_)
  refine lv_iload_n hx hb dX5_vapourAt_18 rfl (lv_at hl 1 rfl) ?_
  refine go_i (ws' := []) C (rn_S (As := [.int ((t - (-600)) / 10)]) (rest := []) C (c_X5_bend l D cI ((t - (-600)) / 10) H.size) ck_X5_bend wd_3_3 wd_3_2 ⟨Nat.le_of_ble_eq_true rfl, Nat.le_of_ble_eq_true rfl⟩ ⟨Nat.le_refl _, Nat.le_refl _⟩ hP hD hS [] rfl rfl hl rfl (Nat.le_of_ble_eq_true rfl) dX5_vapourAt_19) hP hD hS [] rfl rfl rfl (fun H locs hP hD hS => ?_)
  refine lv_bipush (v := 10) hx hb dX5_vapourAt_22 (by decide) ?_
  refine lv_iload_n hx hb dX5_vapourAt_24 rfl (lv_at hl 0 rfl) ?_
  refine lv_isub hx hb dX5_vapourAt_25 ?_
  refine lv_imul hx hb dX5_vapourAt_26 ?_
  refine lv_iload_n hx hb dX5_vapourAt_27 rfl (lv_at hl 1 rfl) ?_
  refine lv_iconst (v := 1) hx hb dX5_vapourAt_28 (by decide) ?_
  refine lv_iadd hx hb dX5_vapourAt_29 ?_
  refine go_i (ws' := []) C (rn_S (As := [.int (((t - (-600)) / 10) + 1)]) (rest := [.int ((r_X5_bend ((t - (-600)) / 10)) * (10 - ((t - (-600)) - (t - (-600)) / 10 * 10)))]) C (c_X5_bend l D cI (((t - (-600)) / 10) + 1) H.size) ck_X5_bend wd_3_3 wd_3_2 ⟨Nat.le_of_ble_eq_true rfl, Nat.le_of_ble_eq_true rfl⟩ ⟨Nat.le_refl _, Nat.le_refl _⟩ hP hD hS [] rfl rfl hl rfl (Nat.le_of_ble_eq_true rfl) dX5_vapourAt_30) hP hD hS [] rfl rfl rfl (fun H locs hP hD hS => ?_)
  refine lv_iload_n hx hb dX5_vapourAt_33 rfl (lv_at hl 0 rfl) ?_
  refine lv_imul hx hb dX5_vapourAt_34 ?_
  refine lv_iadd hx hb dX5_vapourAt_35 ?_
  refine lv_bipush (v := 10) hx hb dX5_vapourAt_36 (by decide) ?_
  refine lv_idiv hx hb dX5_vapourAt_38 (by decide) ?_
  exact hend _ _ _ _ _ (by rw [← hr, r_X5_vapourAt]) hP hS dX5_vapourAt_39
def r_X5_steamAt (ru : Nat → Int32) (t : Int32) (dd : Int32) (p0 : Int32) : Int32 := (if 0 ≤ ((r_X5_vapourAt t) - p0) then ((((r_X5_vapourAt t) - p0) * 10) / ((ru 4) + ((ru 5) * dd))) else 0)
theorem ck_X5_steamAt : CK yX5_steamAt cX5_steamAt 5 (some .int) 3 := ⟨wd_3_14, wd_1_7, by decide, by decide, by decide +kernel⟩
set_option maxHeartbeats 4000000 in
set_option maxRecDepth 100000 in
theorem c_X5_steamAt (l : Launch) (D : va_G) (cI : ClassId) (a : Nat → Nat) (Y : Nat → Int32) (ru : Nat → Int32) (t : Int32) (dd : Int32) (p0 : Int32) (hbz : ¬ ((ru 4) + ((ru 5) * dd)) = 0) : MI l D cI yX5_steamAt cX5_steamAt 5 (some .int) 2 42 [.ref (a 0), .int t, .int dd, .int p0] [yc a Y, ac cI (a 2) 11 ru] (r_X5_steamAt ru t dd p0) [yc a Y, ac cI (a 2) 11 ru] := by
  generalize hr : (r_X5_steamAt ru t dd p0) = r
  refine MI.mk (own := RX5) rfl (by decide) rfl (Nat.le_of_ble_eq_true rfl) ?_
  intro p e s m args below meth c A Q C hD hend H locs ls hP hS hl
  have hx := C.1.1
  have hb := C.1.2.1
  have hl : lv_has ls 5 [(0, .ref (a 0)), (1, .int t), (2, .int dd), (3, .int p0)] := hl
  refine lv_iload_n hx hb dX5_steamAt_0 rfl (lv_at hl 1 rfl) ?_
  refine go_i (ws' := [yc a Y, ac cI (a 2) 11 ru]) C (rn_S (As := [.int t]) (rest := []) C (c_X5_vapourAt l D cI t H.size) ck_X5_vapourAt wd_3_0 wd_2_239 ⟨Nat.le_of_ble_eq_true rfl, Nat.le_of_ble_eq_true rfl⟩ ⟨Nat.le_refl _, Nat.le_refl _⟩ hP hD hS [] rfl rfl hl rfl (Nat.le_of_ble_eq_true rfl) dX5_steamAt_1) hP hD hS [] rfl rfl rfl (fun H locs hP hD hS => ?_)
  refine lv_iload_n hx hb dX5_steamAt_4 rfl (lv_at hl 3 rfl) ?_
  refine lv_isub hx hb dX5_steamAt_5 ?_
  refine lv_istore (lv' := [(4, .int ((r_X5_vapourAt t) - p0)), (0, .ref (a 0)), (1, .int t), (2, .int dd), (3, .int p0)]) hx hb dX5_steamAt_6 hl (by decide) rfl (fun ls hl => ?_)
  refine lv_iload hx hb dX5_steamAt_8 (lv_at hl 0 rfl) ?_
  refine lv_if_ge (tgt := 17) hx hb dX5_steamAt_10 (by decide) (fun c1 => ?_) (fun c1 => ?_)
  · refine lv_iload hx hb dX5_steamAt_17 (lv_at hl 0 rfl) ?_
    refine lv_bipush (v := 10) hx hb dX5_steamAt_19 (by decide) ?_
    refine lv_imul hx hb dX5_steamAt_21 ?_
    refine lv_aload_n hx hb dX5_steamAt_22 rfl (lv_at hl 1 rfl) ?_
    refine kget (v := .ref (a 2)) C hP igX5 rfl 2 (by decide) wd_2_148 0 rfl rfl dX5_steamAt_23 ?_
    refine lv_iconst (v := 4) hx hb dX5_steamAt_26 (by decide) ?_
    refine kald C hP 1 rfl (vp_in_iff.mpr (by decide)) (k := 4) rfl dX5_steamAt_27 ?_
    refine lv_aload_n hx hb dX5_steamAt_28 rfl (lv_at hl 1 rfl) ?_
    refine kget (v := .ref (a 2)) C hP igX5 rfl 2 (by decide) wd_2_148 0 rfl rfl dX5_steamAt_29 ?_
    refine lv_iconst (v := 5) hx hb dX5_steamAt_32 (by decide) ?_
    refine kald C hP 1 rfl (vp_in_iff.mpr (by decide)) (k := 5) rfl dX5_steamAt_33 ?_
    refine lv_iload_n hx hb dX5_steamAt_34 rfl (lv_at hl 3 rfl) ?_
    refine lv_imul hx hb dX5_steamAt_35 ?_
    refine lv_iadd hx hb dX5_steamAt_36 ?_
    refine lv_idiv hx hb dX5_steamAt_37 hbz ?_
    exact hend _ _ _ _ _ (by rw [← hr, r_X5_steamAt, if_pos c1]) hP hS dX5_steamAt_38
  · refine lv_iconst (v := 0) hx hb dX5_steamAt_13 (by decide) ?_
    refine lv_goto (tgt := 38) hx hb dX5_steamAt_14 (by decide) ?_
    exact hend _ _ _ _ _ (by rw [← hr, r_X5_steamAt, if_neg c1]) hP hS dX5_steamAt_38
def r_X5_isRim (Y : Nat → Int32) (k : Int32) : Int32 := (if (k / (Y 1)) = 0 then 1 else (if (k - k / (Y 1) * (Y 1)) = 0 then 1 else (if (k / (Y 1)) = ((Y 0) - 1) then 1 else (if (k - k / (Y 1) * (Y 1)) = ((Y 1) - 1) then 1 else 0))))
theorem ck_X5_isRim : CK yX5_isRim cX5_isRim 4 (some .boolean) 1 := ⟨wd_3_22, wd_1_7, by decide, by decide, by decide +kernel⟩
theorem b_X5_isRim (Y : Nat → Int32) (k : Int32) : (r_X5_isRim Y k) = 0 ∨ (r_X5_isRim Y k) = 1 := by
  unfold r_X5_isRim
  repeat' split
  all_goals first | exact Or.inl rfl | exact Or.inr rfl | exact b_X4_within _ _ _
set_option maxHeartbeats 4000000 in
set_option maxRecDepth 100000 in
theorem c_X5_isRim (l : Launch) (D : va_G) (cI : ClassId) (a : Nat → Nat) (Y : Nat → Int32) (k : Int32) (hc : ¬ (Y 1) = 0) : MI l D cI yX5_isRim cX5_isRim 4 (some .boolean) 0 0 [.ref (a 0), .int k] [yc a Y] (r_X5_isRim Y k) [yc a Y] := by
  have hn : narrow .boolean (.int (r_X5_isRim Y k)) = .int (r_X5_isRim Y k) := nb (b_X5_isRim Y k)
  generalize hr : (r_X5_isRim Y k) = r at hn ⊢
  refine MI.mk (own := RX5) rfl (by decide) hn (Nat.le_of_ble_eq_true rfl) ?_
  intro p e s m args below meth c A Q C hD hend H locs ls hP hS hl
  have hx := C.1.1
  have hb := C.1.2.1
  have hl : lv_has ls 4 [(0, .ref (a 0)), (1, .int k)] := hl
  refine lv_iload_n hx hb dX5_isRim_0 rfl (lv_at hl 1 rfl) ?_
  refine lv_aload_n hx hb dX5_isRim_1 rfl (lv_at hl 0 rfl) ?_
  refine kget (v := .int (Y 1)) C hP igX5 rfl 1 (by decide) wd_2_147 0 rfl rfl dX5_isRim_2 ?_
  refine lv_idiv hx hb dX5_isRim_5 hc ?_
  refine lv_istore_n (lv' := [(2, .int (k / (Y 1))), (0, .ref (a 0)), (1, .int k)]) hx hb dX5_isRim_6 rfl hl (by decide) rfl (fun ls hl => ?_)
  refine lv_iload_n hx hb dX5_isRim_7 rfl (lv_at hl 2 rfl) ?_
  refine lv_aload_n hx hb dX5_isRim_8 rfl (lv_at hl 1 rfl) ?_
  refine kget (v := .int (Y 1)) C hP igX5 rfl 1 (by decide) wd_2_147 0 rfl rfl dX5_isRim_9 ?_
  refine lv_irem hx hb dX5_isRim_12 hc ?_
  refine lv_istore_n (lv' := [(3, .int (k - k / (Y 1) * (Y 1))), (2, .int (k / (Y 1))), (0, .ref (a 0)), (1, .int k)]) hx hb dX5_isRim_13 rfl hl (by decide) rfl (fun ls hl => ?_)
  refine lv_iload_n hx hb dX5_isRim_14 rfl (lv_at hl 1 rfl) ?_
  refine lv_if_eq (tgt := 42) hx hb dX5_isRim_15 (by decide) (fun c1 => ?_) (fun c1 => ?_)
  · refine lv_iconst (v := 1) hx hb dX5_isRim_42 (by decide) ?_
    refine lv_goto (tgt := 47) hx hb dX5_isRim_43 (by decide) ?_
    exact hend _ _ _ _ _ (by rw [← hr, r_X5_isRim, if_pos c1]) hP hS dX5_isRim_47
  · refine lv_iload_n hx hb dX5_isRim_18 rfl (lv_at hl 0 rfl) ?_
    refine lv_if_eq (tgt := 42) hx hb dX5_isRim_19 (by decide) (fun c2 => ?_) (fun c2 => ?_)
    · refine lv_iconst (v := 1) hx hb dX5_isRim_42 (by decide) ?_
      refine lv_goto (tgt := 47) hx hb dX5_isRim_43 (by decide) ?_
      exact hend _ _ _ _ _ (by rw [← hr, r_X5_isRim, if_neg c1, if_pos c2]) hP hS dX5_isRim_47
    · refine lv_iload_n hx hb dX5_isRim_22 rfl (lv_at hl 1 rfl) ?_
      refine lv_aload_n hx hb dX5_isRim_23 rfl (lv_at hl 2 rfl) ?_
      refine kget (v := .int (Y 0)) C hP igX5 rfl 0 (by decide) wd_2_146 0 rfl rfl dX5_isRim_24 ?_
      refine lv_iconst (v := 1) hx hb dX5_isRim_27 (by decide) ?_
      refine lv_isub hx hb dX5_isRim_28 ?_
      refine lv_icmp_eq (tgt := 42) hx hb dX5_isRim_29 (by decide) (fun c3 => ?_) (fun c3 => ?_)
      · refine lv_iconst (v := 1) hx hb dX5_isRim_42 (by decide) ?_
        refine lv_goto (tgt := 47) hx hb dX5_isRim_43 (by decide) ?_
        exact hend _ _ _ _ _ (by rw [← hr, r_X5_isRim, if_neg c1, if_neg c2, if_pos c3]) hP hS dX5_isRim_47
      · refine lv_iload_n hx hb dX5_isRim_32 rfl (lv_at hl 0 rfl) ?_
        refine lv_aload_n hx hb dX5_isRim_33 rfl (lv_at hl 2 rfl) ?_
        refine kget (v := .int (Y 1)) C hP igX5 rfl 1 (by decide) wd_2_147 0 rfl rfl dX5_isRim_34 ?_
        refine lv_iconst (v := 1) hx hb dX5_isRim_37 (by decide) ?_
        refine lv_isub hx hb dX5_isRim_38 ?_
        refine lv_icmp_ne (tgt := 46) hx hb dX5_isRim_39 (by decide) (fun c4 => ?_) (fun c4 => ?_)
        · refine lv_iconst (v := 0) hx hb dX5_isRim_46 (by decide) ?_
          exact hend _ _ _ _ _ (by rw [← hr, r_X5_isRim, if_neg c1, if_neg c2, if_neg c3, if_neg c4]) hP hS dX5_isRim_47
        · refine lv_iconst (v := 1) hx hb dX5_isRim_42 (by decide) ?_
          refine lv_goto (tgt := 47) hx hb dX5_isRim_43 (by decide) ?_
          exact hend _ _ _ _ _ (by rw [← hr, r_X5_isRim, if_neg c1, if_neg c2, if_neg c3, if_pos c4]) hP hS dX5_isRim_47
def mg_X5_holds_41 (Y : Nat → Int32) (ru : Nat → Int32) (k : Int32) : Int32 := (if (r_X5_isRim Y k) = 0 then 0 else (ru 2))
def r_X5_holds (Y : Nat → Int32) (ru : Nat → Int32) (ic : Nat → Int32) (pr : Nat → Int32) (w : Int32) (k : Int32) (t : Int32) (sh : Int32) : Int32 := (if ((((ru 1) + (mg_X5_holds_41 Y ru k)) * (sh - t)) / 10) < ((r_X5_steamAt ru t ((100 * ((ru 0) - (ic (Int32.toNatClampNeg ((24 * w) + k))))) / (ru 0)) (pr (Int32.toNatClampNeg w))) * (ru 3)) then 0 else 1)
theorem ck_X5_holds : CK yX5_holds cX5_holds 7 (some .boolean) 4 := ⟨wd_3_57, wd_1_7, by decide, by decide, by decide +kernel⟩
theorem b_X5_holds (Y : Nat → Int32) (ru : Nat → Int32) (ic : Nat → Int32) (pr : Nat → Int32) (w : Int32) (k : Int32) (t : Int32) (sh : Int32) : (r_X5_holds Y ru ic pr w k t sh) = 0 ∨ (r_X5_holds Y ru ic pr w k t sh) = 1 := by
  unfold r_X5_holds
  repeat' split
  all_goals first | exact Or.inl rfl | exact Or.inr rfl | exact b_X4_within _ _ _
set_option maxHeartbeats 4000000 in
set_option maxRecDepth 100000 in
theorem c_X5_holds (l : Launch) (D : va_G) (cI : ClassId) (a : Nat → Nat) (Y : Nat → Int32) (ru : Nat → Int32) (ic : Nat → Int32) (pr : Nat → Int32) (w : Int32) (k : Int32) (t : Int32) (sh : Int32) (hw : w = 0 ∨ w = 1) (hk : vp_in ((24 * w) + k) 48) (hf : ¬ (ru 0) = 0) (hc : ¬ (Y 1) = 0) (hbz : ¬ ((ru 4) + ((ru 5) * ((100 * ((ru 0) - (ic (Int32.toNatClampNeg ((24 * w) + k))))) / (ru 0)))) = 0) : MI l D cI yX5_holds cX5_holds 7 (some .boolean) 3 66 [.ref (a 0), .int w, .int k, .int t, .int sh] [yc a Y, ac cI (a 2) 11 ru, ac cI (a 6) 48 ic, ac cI (a 12) 2 pr] (r_X5_holds Y ru ic pr w k t sh) [yc a Y, ac cI (a 2) 11 ru, ac cI (a 6) 48 ic, ac cI (a 12) 2 pr] := by
  have hn : narrow .boolean (.int (r_X5_holds Y ru ic pr w k t sh)) = .int (r_X5_holds Y ru ic pr w k t sh) := nb (b_X5_holds Y ru ic pr w k t sh)
  generalize hr : (r_X5_holds Y ru ic pr w k t sh) = r at hn ⊢
  refine MI.mk (own := RX5) rfl (by decide) hn (Nat.le_of_ble_eq_true rfl) ?_
  intro p e s m args below meth c A Q C hD hend H locs ls hP hS hl
  have hx := C.1.1
  have hb := C.1.2.1
  have hl : lv_has ls 7 [(0, .ref (a 0)), (1, .int w), (2, .int k), (3, .int t), (4, .int sh)] := hl
  refine lv_bipush (v := 100) hx hb dX5_holds_0 (by decide) ?_
  refine lv_aload_n hx hb dX5_holds_2 rfl (lv_at hl 0 rfl) ?_
  refine kget (v := .ref (a 2)) C hP igX5 rfl 2 (by decide) wd_2_148 0 rfl rfl dX5_holds_3 ?_
  refine lv_iconst (v := 0) hx hb dX5_holds_6 (by decide) ?_
  refine kald C hP 1 rfl (vp_in_iff.mpr (by decide)) (k := 0) rfl dX5_holds_7 ?_
  refine lv_aload_n hx hb dX5_holds_8 rfl (lv_at hl 0 rfl) ?_
  refine kget (v := .ref (a 6)) C hP igX5 rfl 6 (by decide) wd_2_152 0 rfl rfl dX5_holds_9 ?_
  refine lv_bipush (v := 24) hx hb dX5_holds_12 (by decide) ?_
  refine lv_iload_n hx hb dX5_holds_14 rfl (lv_at hl 1 rfl) ?_
  refine lv_imul hx hb dX5_holds_15 ?_
  refine lv_iload_n hx hb dX5_holds_16 rfl (lv_at hl 2 rfl) ?_
  refine lv_iadd hx hb dX5_holds_17 ?_
  refine kald C hP 2 rfl hk (k := (Int32.toNatClampNeg ((24 * w) + k))) rfl dX5_holds_18 ?_
  refine lv_isub hx hb dX5_holds_19 ?_
  refine lv_imul hx hb dX5_holds_20 ?_
  refine lv_aload_n hx hb dX5_holds_21 rfl (lv_at hl 0 rfl) ?_
  refine kget (v := .ref (a 2)) C hP igX5 rfl 2 (by decide) wd_2_148 0 rfl rfl dX5_holds_22 ?_
  refine lv_iconst (v := 0) hx hb dX5_holds_25 (by decide) ?_
  refine kald C hP 1 rfl (vp_in_iff.mpr (by decide)) (k := 0) rfl dX5_holds_26 ?_
  refine lv_idiv hx hb dX5_holds_27 hf ?_
  refine lv_istore (lv' := [(5, .int ((100 * ((ru 0) - (ic (Int32.toNatClampNeg ((24 * w) + k))))) / (ru 0))), (0, .ref (a 0)), (1, .int w), (2, .int k), (3, .int t), (4, .int sh)]) hx hb dX5_holds_28 hl (by decide) rfl (fun ls hl => ?_)
  refine lv_aload_n hx hb dX5_holds_30 rfl (lv_at hl 1 rfl) ?_
  refine kget (v := .ref (a 2)) C hP igX5 rfl 2 (by decide) wd_2_148 0 rfl rfl dX5_holds_31 ?_
  refine lv_iconst (v := 1) hx hb dX5_holds_34 (by decide) ?_
  refine kald C hP 1 rfl (vp_in_iff.mpr (by decide)) (k := 1) rfl dX5_holds_35 ?_
  refine lv_aload_n hx hb dX5_holds_36 rfl (lv_at hl 1 rfl) ?_
  refine lv_iload_n hx hb dX5_holds_37 rfl (lv_at hl 3 rfl) ?_
  refine go_i (ws' := [yc a Y, ac cI (a 2) 11 ru, ac cI (a 6) 48 ic, ac cI (a 12) 2 pr]) C (rn_V (As := [.int k]) (rest := [.int (ru 1)]) C (c_X5_isRim l D cI a Y k hc H.size) ck_X5_isRim wd_3_21 wd_0_7 wd_3_19 ⟨Nat.le_of_ble_eq_true rfl, Nat.le_of_ble_eq_true rfl⟩ ⟨Nat.le_refl _, Nat.le_refl _⟩ (ci := 5) (q0 := 0) rfl rfl hP hD hS [0] rfl rfl hl rfl (Nat.le_of_ble_eq_true rfl) dX5_holds_38) hP hD hS [0] rfl rfl rfl (fun H locs hP hD hS => ?_)
  have j54 : ∀ (ls : Array Slot) (H : Heap) (locs : List Loc), lv_has ls 7 [(0, .ref (a 0)), (1, .int w), (2, .int k), (3, .int t), (4, .int sh), (5, .int ((100 * ((ru 0) - (ic (Int32.toNatClampNeg ((24 * w) + k))))) / (ru 0)))] → va_P D vwCl [yc a Y, ac cI (a 2) 11 ru, ac cI (a 6) 48 ic, ac cI (a 12) 2 pr] H → va_D A [yc a Y, ac cI (a 2) 11 ru, ac cI (a 6) 48 ic, ac cI (a 12) 2 pr] → va_S A s.heap H locs → W p l e (RM 3 66) s m args below meth c H locs 0 0 Q (F0 m 54 ls [.int (mg_X5_holds_41 Y ru k), .int (ru 1)]) := by
    intro ls H locs hl hP hD hS
    refine lv_iadd hx hb dX5_holds_54 ?_
    refine lv_istore (lv' := [(6, .int ((ru 1) + (mg_X5_holds_41 Y ru k))), (0, .ref (a 0)), (1, .int w), (2, .int k), (3, .int t), (4, .int sh), (5, .int ((100 * ((ru 0) - (ic (Int32.toNatClampNeg ((24 * w) + k))))) / (ru 0)))]) hx hb dX5_holds_55 hl (by decide) rfl (fun ls hl => ?_)
    refine lv_aload_n hx hb dX5_holds_57 rfl (lv_at hl 1 rfl) ?_
    refine lv_iload_n hx hb dX5_holds_58 rfl (lv_at hl 4 rfl) ?_
    refine lv_iload hx hb dX5_holds_59 (lv_at hl 6 rfl) ?_
    refine lv_aload_n hx hb dX5_holds_61 rfl (lv_at hl 1 rfl) ?_
    refine kget (v := .ref (a 12)) C hP igX5 rfl 12 (by decide) wd_2_158 0 rfl rfl dX5_holds_62 ?_
    refine lv_iload_n hx hb dX5_holds_65 rfl (lv_at hl 2 rfl) ?_
    refine kald C hP 3 rfl (in2 hw) (k := (Int32.toNatClampNeg w)) rfl dX5_holds_66 ?_
    refine go_i (ws' := [yc a Y, ac cI (a 2) 11 ru, ac cI (a 6) 48 ic, ac cI (a 12) 2 pr]) C (rn_V (As := [.int t, .int ((100 * ((ru 0) - (ic (Int32.toNatClampNeg ((24 * w) + k))))) / (ru 0)), .int (pr (Int32.toNatClampNeg w))]) (rest := []) C (c_X5_steamAt l D cI a Y ru t ((100 * ((ru 0) - (ic (Int32.toNatClampNeg ((24 * w) + k))))) / (ru 0)) (pr (Int32.toNatClampNeg w)) hbz H.size) ck_X5_steamAt wd_3_13 wd_0_6 wd_3_11 ⟨Nat.le_of_ble_eq_true rfl, Nat.le_of_ble_eq_true rfl⟩ ⟨Nat.le_refl _, Nat.le_refl _⟩ (ci := 5) (q0 := 0) rfl rfl hP hD hS [0, 1] rfl rfl hl rfl (Nat.le_of_ble_eq_true rfl) dX5_holds_67) hP hD hS [0, 1] rfl rfl rfl (fun H locs hP hD hS => ?_)
    refine lv_aload_n hx hb dX5_holds_70 rfl (lv_at hl 1 rfl) ?_
    refine kget (v := .ref (a 2)) C hP igX5 rfl 2 (by decide) wd_2_148 0 rfl rfl dX5_holds_71 ?_
    refine lv_iconst (v := 3) hx hb dX5_holds_74 (by decide) ?_
    refine kald C hP 1 rfl (vp_in_iff.mpr (by decide)) (k := 3) rfl dX5_holds_75 ?_
    refine lv_imul hx hb dX5_holds_76 ?_
    refine lv_iload hx hb dX5_holds_77 (lv_at hl 0 rfl) ?_
    refine lv_iload hx hb dX5_holds_79 (lv_at hl 5 rfl) ?_
    refine lv_iload_n hx hb dX5_holds_81 rfl (lv_at hl 4 rfl) ?_
    refine lv_isub hx hb dX5_holds_82 ?_
    refine lv_imul hx hb dX5_holds_83 ?_
    refine lv_bipush (v := 10) hx hb dX5_holds_84 (by decide) ?_
    refine lv_idiv hx hb dX5_holds_86 (by decide) ?_
    refine lv_icmp_gt (tgt := 94) hx hb dX5_holds_87 (by decide) (fun c2 => ?_) (fun c2 => ?_)
    · refine lv_iconst (v := 0) hx hb dX5_holds_94 (by decide) ?_
      exact hend _ _ _ _ _ (by rw [← hr, r_X5_holds, if_pos c2]) hP hS dX5_holds_95
    · refine lv_iconst (v := 1) hx hb dX5_holds_90 (by decide) ?_
      refine lv_goto (tgt := 95) hx hb dX5_holds_91 (by decide) ?_
      exact hend _ _ _ _ _ (by rw [← hr, r_X5_holds, if_neg c2]) hP hS dX5_holds_95
  refine lv_if_eq (tgt := 53) hx hb dX5_holds_41 (by decide) (fun c1 => ?_) (fun c1 => ?_)
  · refine lv_iconst (v := 0) hx hb dX5_holds_53 (by decide) ?_
    have e_mg_X5_holds_41 : (mg_X5_holds_41 Y ru k) = 0 := by rw [mg_X5_holds_41, if_pos c1]
    have jj := j54
    rw [e_mg_X5_holds_41] at jj
    exact jj ls H locs (lv_sub hl [1, 2, 3, 4, 5, 0] rfl) hP hD hS
  · refine lv_aload_n hx hb dX5_holds_44 rfl (lv_at hl 1 rfl) ?_
    refine kget (v := .ref (a 2)) C hP igX5 rfl 2 (by decide) wd_2_148 0 rfl rfl dX5_holds_45 ?_
    refine lv_iconst (v := 2) hx hb dX5_holds_48 (by decide) ?_
    refine kald C hP 1 rfl (vp_in_iff.mpr (by decide)) (k := 2) rfl dX5_holds_49 ?_
    refine lv_goto (tgt := 54) hx hb dX5_holds_50 (by decide) ?_
    have e_mg_X5_holds_41 : (mg_X5_holds_41 Y ru k) = (ru 2) := by rw [mg_X5_holds_41, if_neg c1]
    have jj := j54
    rw [e_mg_X5_holds_41] at jj
    exact jj ls H locs (lv_sub hl [1, 2, 3, 4, 5, 0] rfl) hP hD hS
def lr_X5_warmthOf_8 (Y : Nat → Int32) (ru : Nat → Int32) (ic : Nat → Int32) (pr : Nat → Int32) (w : Int32) (k : Int32) (sh : Int32) : Nat → (Int32) → (Int32) → (Int32)
  | 0, _, _ => 0
  | n + 1, lo, hi => (if hi ≤ lo then lo else (if (r_X5_holds Y ru ic pr w k (lo + (((hi - lo) + 1) / 2)) sh) = 0 then (lr_X5_warmthOf_8 Y ru ic pr w k sh n lo ((lo + (((hi - lo) + 1) / 2)) - 1)) else (lr_X5_warmthOf_8 Y ru ic pr w k sh n (lo + (((hi - lo) + 1) / 2)) hi)))
noncomputable def r_X5_warmthOf (Y : Nat → Int32) (ru : Nat → Int32) (ic : Nat → Int32) (pr : Nat → Int32) (w : Int32) (k : Int32) (sh : Int32) : Int32 := (lr_X5_warmthOf_8 Y ru ic pr w k sh (fu 601) (-600) 0)
theorem ck_X5_warmthOf : CK yX5_warmthOf cX5_warmthOf 7 (some .int) 3 := ⟨wd_3_53, wd_1_7, by decide, by decide, by decide +kernel⟩
set_option maxHeartbeats 4000000 in
set_option maxRecDepth 100000 in
theorem c_X5_warmthOf (l : Launch) (D : va_G) (cI : ClassId) (a : Nat → Nat) (Y : Nat → Int32) (ru : Nat → Int32) (ic : Nat → Int32) (pr : Nat → Int32) (w : Int32) (k : Int32) (sh : Int32) (hw : w = 0 ∨ w = 1) (hk : vp_in ((24 * w) + k) 48) (hf : ¬ (ru 0) = 0) (hc : ¬ (Y 1) = 0) (hbz : ¬ ((ru 4) + ((ru 5) * ((100 * ((ru 0) - (ic (Int32.toNatClampNeg ((24 * w) + k))))) / (ru 0)))) = 0) : MI l D cI yX5_warmthOf cX5_warmthOf 7 (some .int) 4 92 [.ref (a 0), .int w, .int k, .int sh] [yc a Y, ac cI (a 2) 11 ru, ac cI (a 6) 48 ic, ac cI (a 12) 2 pr] (r_X5_warmthOf Y ru ic pr w k sh) [yc a Y, ac cI (a 2) 11 ru, ac cI (a 6) 48 ic, ac cI (a 12) 2 pr] := by
  generalize hr : (r_X5_warmthOf Y ru ic pr w k sh) = r
  refine MI.mk (own := RX5) rfl (by decide) rfl (Nat.le_of_ble_eq_true rfl) ?_
  intro p e s m args below meth c A Q C hD hend H locs ls hP hS hl
  have hx := C.1.1
  have hb := C.1.2.1
  have hl : lv_has ls 7 [(0, .ref (a 0)), (1, .int w), (2, .int k), (3, .int sh)] := hl
  refine lv_sipush (v := (-600)) hx hb dX5_warmthOf_0 (by decide) ?_
  refine lv_istore (lv' := [(4, .int (-600)), (0, .ref (a 0)), (1, .int w), (2, .int k), (3, .int sh)]) hx hb dX5_warmthOf_3 hl (by decide) rfl (fun ls hl => ?_)
  refine lv_iconst (v := 0) hx hb dX5_warmthOf_5 (by decide) ?_
  refine lv_istore (lv' := [(5, .int 0), (4, .int (-600)), (0, .ref (a 0)), (1, .int w), (2, .int k), (3, .int sh)]) hx hb dX5_warmthOf_6 hl (by decide) rfl (fun ls hl => ?_)
  have lp8 : ∀ (n : Nat) (lo : Int32) (hi : Int32), (-600 ≤ Int32.toInt lo ∧ Int32.toInt lo ≤ Int32.toInt hi ∧ Int32.toInt hi ≤ 0) → (Int32.toInt hi - Int32.toInt lo).toNat < n → lr_X5_warmthOf_8 Y ru ic pr w k sh n lo hi = r → ∀ (ls : Array Slot) (H : Heap) (locs : List Loc), lv_has ls 7 [(0, .ref (a 0)), (1, .int w), (2, .int k), (3, .int sh), (4, .int lo), (5, .int hi)] → va_P D vwCl [yc a Y, ac cI (a 2) 11 ru, ac cI (a 6) 48 ic, ac cI (a 12) 2 pr] H → va_D A [yc a Y, ac cI (a 2) 11 ru, ac cI (a 6) 48 ic, ac cI (a 12) 2 pr] → va_S A s.heap H locs → W p l e (RM 4 92) s m args below meth c H locs 0 0 Q (F0 m 8 ls []) := by
    clear hl hP hD hS
    intro n
    induction n with
    | zero =>
      intro lo hi hb2 hm
      exact absurd hm (Nat.not_lt_zero _)
    | succ n ih =>
      intro lo hi hb2 hm hr ls H locs hl hP hD hS
      refine lv_iload hx hb dX5_warmthOf_8 (lv_at hl 4 rfl) ?_
      refine lv_iload hx hb dX5_warmthOf_10 (lv_at hl 5 rfl) ?_
      refine lv_icmp_ge (tgt := 57) hx hb dX5_warmthOf_12 (by decide) (fun c1 => ?_) (fun c1 => ?_)
      · refine lv_iload hx hb dX5_warmthOf_57 (lv_at hl 4 rfl) ?_
        exact hend _ _ _ _ _ (by rw [← hr, lr_X5_warmthOf_8, if_pos c1]) hP hS dX5_warmthOf_59
      · refine lv_iload hx hb dX5_warmthOf_15 (lv_at hl 4 rfl) ?_
        refine lv_iload hx hb dX5_warmthOf_17 (lv_at hl 5 rfl) ?_
        refine lv_iload hx hb dX5_warmthOf_19 (lv_at hl 4 rfl) ?_
        refine lv_isub hx hb dX5_warmthOf_21 ?_
        refine lv_iconst (v := 1) hx hb dX5_warmthOf_22 (by decide) ?_
        refine lv_iadd hx hb dX5_warmthOf_23 ?_
        refine lv_iconst (v := 2) hx hb dX5_warmthOf_24 (by decide) ?_
        refine lv_idiv hx hb dX5_warmthOf_25 (by decide) ?_
        refine lv_iadd hx hb dX5_warmthOf_26 ?_
        refine lv_istore (lv' := [(6, .int (lo + (((hi - lo) + 1) / 2))), (0, .ref (a 0)), (1, .int w), (2, .int k), (3, .int sh), (4, .int lo), (5, .int hi)]) hx hb dX5_warmthOf_27 hl (by decide) rfl (fun ls hl => ?_)
        refine lv_aload_n hx hb dX5_warmthOf_29 rfl (lv_at hl 1 rfl) ?_
        refine lv_iload_n hx hb dX5_warmthOf_30 rfl (lv_at hl 2 rfl) ?_
        refine lv_iload_n hx hb dX5_warmthOf_31 rfl (lv_at hl 3 rfl) ?_
        refine lv_iload hx hb dX5_warmthOf_32 (lv_at hl 0 rfl) ?_
        refine lv_iload_n hx hb dX5_warmthOf_34 rfl (lv_at hl 4 rfl) ?_
        refine go_i (ws' := [yc a Y, ac cI (a 2) 11 ru, ac cI (a 6) 48 ic, ac cI (a 12) 2 pr]) C (rn_V (As := [.int w, .int k, .int (lo + (((hi - lo) + 1) / 2)), .int sh]) (rest := []) C (c_X5_holds l D cI a Y ru ic pr w k (lo + (((hi - lo) + 1) / 2)) sh hw hk hf hc hbz H.size) ck_X5_holds wd_3_56 wd_0_11 wd_3_54 ⟨Nat.le_of_ble_eq_true rfl, Nat.le_of_ble_eq_true rfl⟩ ⟨Nat.le_refl _, Nat.le_refl _⟩ (ci := 5) (q0 := 0) rfl rfl hP hD hS [0, 1, 2, 3] rfl rfl hl rfl (Nat.le_of_ble_eq_true rfl) dX5_warmthOf_35) hP hD hS [0, 1, 2, 3] rfl rfl rfl (fun H locs hP hD hS => ?_)
        refine lv_if_eq (tgt := 48) hx hb dX5_warmthOf_38 (by decide) (fun c2 => ?_) (fun c2 => ?_)
        · refine lv_iload hx hb dX5_warmthOf_48 (lv_at hl 0 rfl) ?_
          refine lv_iconst (v := 1) hx hb dX5_warmthOf_50 (by decide) ?_
          refine lv_isub hx hb dX5_warmthOf_51 ?_
          refine lv_istore (lv' := [(5, .int ((lo + (((hi - lo) + 1) / 2)) - 1)), (6, .int (lo + (((hi - lo) + 1) / 2))), (0, .ref (a 0)), (1, .int w), (2, .int k), (3, .int sh), (4, .int lo)]) hx hb dX5_warmthOf_52 hl (by decide) rfl (fun ls hl => ?_)
          refine lv_goto (tgt := 8) hx hb dX5_warmthOf_54 (by decide) ?_
          exact ih lo ((lo + (((hi - lo) + 1) / 2)) - 1) (mid_hi_in hb2 c1) (mid_hi hb2 c1 hm) (by rw [← hr, lr_X5_warmthOf_8, if_neg c1, if_pos c2]) ls H locs (lv_sub hl [2, 3, 4, 5, 6, 0] rfl) hP hD hS
        · refine lv_iload hx hb dX5_warmthOf_41 (lv_at hl 0 rfl) ?_
          refine lv_istore (lv' := [(4, .int (lo + (((hi - lo) + 1) / 2))), (6, .int (lo + (((hi - lo) + 1) / 2))), (0, .ref (a 0)), (1, .int w), (2, .int k), (3, .int sh), (5, .int hi)]) hx hb dX5_warmthOf_43 hl (by decide) rfl (fun ls hl => ?_)
          refine lv_goto (tgt := 54) hx hb dX5_warmthOf_45 (by decide) ?_
          refine lv_goto (tgt := 8) hx hb dX5_warmthOf_54 (by decide) ?_
          exact ih (lo + (((hi - lo) + 1) / 2)) hi (mid_lo_in hb2 c1) (mid_lo hb2 c1 hm) (by rw [← hr, lr_X5_warmthOf_8, if_neg c1, if_neg c2]) ls H locs (lv_sub hl [2, 3, 4, 5, 0, 6] rfl) hP hD hS
  exact lp8 (fu 601) (-600) 0 (by decide) (by rw [fu_eq]; decide) (by rw [← hr, r_X5_warmthOf]) ls H locs (lv_sub hl [2, 3, 4, 5, 1, 0] rfl) hP hD hS
def lq_X5_fill_5_ic (ru : Nat → Int32) (mn : Nat → Int32) (pr : Nat → Int32) (hg : Nat → Int32) (al : Nat → Int32) (sd : Nat → Int32) (w : Int32) (se : Int32) : Nat → (Int32) → (Nat → Int32) → (Nat → Int32) → (Nat → Int32) → (Nat → Int32) → (Nat → Int32) → (Nat → Int32)
  | 0, _, _, _, _, _, _ => fun _ => 0
  | n + 1, i, ic, wm, ga, fe, dr => (if ((24 * w) + 24) ≤ i then ic else (lq_X5_fill_5_ic ru mn pr hg al sd w se n (i + 1) (upd ic (Int32.toNatClampNeg i) (ru 0)) (upd wm (Int32.toNatClampNeg i) (-6)) (upd ga (Int32.toNatClampNeg i) 0) (upd fe (Int32.toNatClampNeg i) (-6)) (upd dr (Int32.toNatClampNeg i) (-6))))
def lq_X5_fill_5_wm (ru : Nat → Int32) (mn : Nat → Int32) (pr : Nat → Int32) (hg : Nat → Int32) (al : Nat → Int32) (sd : Nat → Int32) (w : Int32) (se : Int32) : Nat → (Int32) → (Nat → Int32) → (Nat → Int32) → (Nat → Int32) → (Nat → Int32) → (Nat → Int32) → (Nat → Int32)
  | 0, _, _, _, _, _, _ => fun _ => 0
  | n + 1, i, ic, wm, ga, fe, dr => (if ((24 * w) + 24) ≤ i then wm else (lq_X5_fill_5_wm ru mn pr hg al sd w se n (i + 1) (upd ic (Int32.toNatClampNeg i) (ru 0)) (upd wm (Int32.toNatClampNeg i) (-6)) (upd ga (Int32.toNatClampNeg i) 0) (upd fe (Int32.toNatClampNeg i) (-6)) (upd dr (Int32.toNatClampNeg i) (-6))))
def lq_X5_fill_5_ga (ru : Nat → Int32) (mn : Nat → Int32) (pr : Nat → Int32) (hg : Nat → Int32) (al : Nat → Int32) (sd : Nat → Int32) (w : Int32) (se : Int32) : Nat → (Int32) → (Nat → Int32) → (Nat → Int32) → (Nat → Int32) → (Nat → Int32) → (Nat → Int32) → (Nat → Int32)
  | 0, _, _, _, _, _, _ => fun _ => 0
  | n + 1, i, ic, wm, ga, fe, dr => (if ((24 * w) + 24) ≤ i then ga else (lq_X5_fill_5_ga ru mn pr hg al sd w se n (i + 1) (upd ic (Int32.toNatClampNeg i) (ru 0)) (upd wm (Int32.toNatClampNeg i) (-6)) (upd ga (Int32.toNatClampNeg i) 0) (upd fe (Int32.toNatClampNeg i) (-6)) (upd dr (Int32.toNatClampNeg i) (-6))))
def lq_X5_fill_5_fe (ru : Nat → Int32) (mn : Nat → Int32) (pr : Nat → Int32) (hg : Nat → Int32) (al : Nat → Int32) (sd : Nat → Int32) (w : Int32) (se : Int32) : Nat → (Int32) → (Nat → Int32) → (Nat → Int32) → (Nat → Int32) → (Nat → Int32) → (Nat → Int32) → (Nat → Int32)
  | 0, _, _, _, _, _, _ => fun _ => 0
  | n + 1, i, ic, wm, ga, fe, dr => (if ((24 * w) + 24) ≤ i then fe else (lq_X5_fill_5_fe ru mn pr hg al sd w se n (i + 1) (upd ic (Int32.toNatClampNeg i) (ru 0)) (upd wm (Int32.toNatClampNeg i) (-6)) (upd ga (Int32.toNatClampNeg i) 0) (upd fe (Int32.toNatClampNeg i) (-6)) (upd dr (Int32.toNatClampNeg i) (-6))))
def lq_X5_fill_5_dr (ru : Nat → Int32) (mn : Nat → Int32) (pr : Nat → Int32) (hg : Nat → Int32) (al : Nat → Int32) (sd : Nat → Int32) (w : Int32) (se : Int32) : Nat → (Int32) → (Nat → Int32) → (Nat → Int32) → (Nat → Int32) → (Nat → Int32) → (Nat → Int32) → (Nat → Int32)
  | 0, _, _, _, _, _, _ => fun _ => 0
  | n + 1, i, ic, wm, ga, fe, dr => (if ((24 * w) + 24) ≤ i then dr else (lq_X5_fill_5_dr ru mn pr hg al sd w se n (i + 1) (upd ic (Int32.toNatClampNeg i) (ru 0)) (upd wm (Int32.toNatClampNeg i) (-6)) (upd ga (Int32.toNatClampNeg i) 0) (upd fe (Int32.toNatClampNeg i) (-6)) (upd dr (Int32.toNatClampNeg i) (-6))))
def lq_X5_fill_5_mn (ru : Nat → Int32) (mn : Nat → Int32) (pr : Nat → Int32) (hg : Nat → Int32) (al : Nat → Int32) (sd : Nat → Int32) (w : Int32) (se : Int32) : Nat → (Int32) → (Nat → Int32) → (Nat → Int32) → (Nat → Int32) → (Nat → Int32) → (Nat → Int32) → (Nat → Int32)
  | 0, _, _, _, _, _, _ => fun _ => 0
  | n + 1, i, ic, wm, ga, fe, dr => (if ((24 * w) + 24) ≤ i then (upd mn (Int32.toNatClampNeg w) 0) else (lq_X5_fill_5_mn ru mn pr hg al sd w se n (i + 1) (upd ic (Int32.toNatClampNeg i) (ru 0)) (upd wm (Int32.toNatClampNeg i) (-6)) (upd ga (Int32.toNatClampNeg i) 0) (upd fe (Int32.toNatClampNeg i) (-6)) (upd dr (Int32.toNatClampNeg i) (-6))))
def lq_X5_fill_5_pr (ru : Nat → Int32) (mn : Nat → Int32) (pr : Nat → Int32) (hg : Nat → Int32) (al : Nat → Int32) (sd : Nat → Int32) (w : Int32) (se : Int32) : Nat → (Int32) → (Nat → Int32) → (Nat → Int32) → (Nat → Int32) → (Nat → Int32) → (Nat → Int32) → (Nat → Int32)
  | 0, _, _, _, _, _, _ => fun _ => 0
  | n + 1, i, ic, wm, ga, fe, dr => (if ((24 * w) + 24) ≤ i then (upd pr (Int32.toNatClampNeg w) se) else (lq_X5_fill_5_pr ru mn pr hg al sd w se n (i + 1) (upd ic (Int32.toNatClampNeg i) (ru 0)) (upd wm (Int32.toNatClampNeg i) (-6)) (upd ga (Int32.toNatClampNeg i) 0) (upd fe (Int32.toNatClampNeg i) (-6)) (upd dr (Int32.toNatClampNeg i) (-6))))
def lq_X5_fill_5_hg (ru : Nat → Int32) (mn : Nat → Int32) (pr : Nat → Int32) (hg : Nat → Int32) (al : Nat → Int32) (sd : Nat → Int32) (w : Int32) (se : Int32) : Nat → (Int32) → (Nat → Int32) → (Nat → Int32) → (Nat → Int32) → (Nat → Int32) → (Nat → Int32) → (Nat → Int32)
  | 0, _, _, _, _, _, _ => fun _ => 0
  | n + 1, i, ic, wm, ga, fe, dr => (if ((24 * w) + 24) ≤ i then (upd hg (Int32.toNatClampNeg w) se) else (lq_X5_fill_5_hg ru mn pr hg al sd w se n (i + 1) (upd ic (Int32.toNatClampNeg i) (ru 0)) (upd wm (Int32.toNatClampNeg i) (-6)) (upd ga (Int32.toNatClampNeg i) 0) (upd fe (Int32.toNatClampNeg i) (-6)) (upd dr (Int32.toNatClampNeg i) (-6))))
def lq_X5_fill_5_al (ru : Nat → Int32) (mn : Nat → Int32) (pr : Nat → Int32) (hg : Nat → Int32) (al : Nat → Int32) (sd : Nat → Int32) (w : Int32) (se : Int32) : Nat → (Int32) → (Nat → Int32) → (Nat → Int32) → (Nat → Int32) → (Nat → Int32) → (Nat → Int32) → (Nat → Int32)
  | 0, _, _, _, _, _, _ => fun _ => 0
  | n + 1, i, ic, wm, ga, fe, dr => (if ((24 * w) + 24) ≤ i then (upd al (Int32.toNatClampNeg w) 0) else (lq_X5_fill_5_al ru mn pr hg al sd w se n (i + 1) (upd ic (Int32.toNatClampNeg i) (ru 0)) (upd wm (Int32.toNatClampNeg i) (-6)) (upd ga (Int32.toNatClampNeg i) 0) (upd fe (Int32.toNatClampNeg i) (-6)) (upd dr (Int32.toNatClampNeg i) (-6))))
def lq_X5_fill_5_sd (ru : Nat → Int32) (mn : Nat → Int32) (pr : Nat → Int32) (hg : Nat → Int32) (al : Nat → Int32) (sd : Nat → Int32) (w : Int32) (se : Int32) : Nat → (Int32) → (Nat → Int32) → (Nat → Int32) → (Nat → Int32) → (Nat → Int32) → (Nat → Int32) → (Nat → Int32)
  | 0, _, _, _, _, _, _ => fun _ => 0
  | n + 1, i, ic, wm, ga, fe, dr => (if ((24 * w) + 24) ≤ i then (upd sd (Int32.toNatClampNeg w) 0) else (lq_X5_fill_5_sd ru mn pr hg al sd w se n (i + 1) (upd ic (Int32.toNatClampNeg i) (ru 0)) (upd wm (Int32.toNatClampNeg i) (-6)) (upd ga (Int32.toNatClampNeg i) 0) (upd fe (Int32.toNatClampNeg i) (-6)) (upd dr (Int32.toNatClampNeg i) (-6))))
noncomputable def q_X5_fill_ic (ru : Nat → Int32) (ic : Nat → Int32) (wm : Nat → Int32) (ga : Nat → Int32) (fe : Nat → Int32) (dr : Nat → Int32) (mn : Nat → Int32) (pr : Nat → Int32) (hg : Nat → Int32) (al : Nat → Int32) (sd : Nat → Int32) (w : Int32) (se : Int32) : Nat → Int32 := (lq_X5_fill_5_ic ru mn pr hg al sd w se (fu 25) (24 * w) ic wm ga fe dr)
noncomputable def q_X5_fill_wm (ru : Nat → Int32) (ic : Nat → Int32) (wm : Nat → Int32) (ga : Nat → Int32) (fe : Nat → Int32) (dr : Nat → Int32) (mn : Nat → Int32) (pr : Nat → Int32) (hg : Nat → Int32) (al : Nat → Int32) (sd : Nat → Int32) (w : Int32) (se : Int32) : Nat → Int32 := (lq_X5_fill_5_wm ru mn pr hg al sd w se (fu 25) (24 * w) ic wm ga fe dr)
noncomputable def q_X5_fill_ga (ru : Nat → Int32) (ic : Nat → Int32) (wm : Nat → Int32) (ga : Nat → Int32) (fe : Nat → Int32) (dr : Nat → Int32) (mn : Nat → Int32) (pr : Nat → Int32) (hg : Nat → Int32) (al : Nat → Int32) (sd : Nat → Int32) (w : Int32) (se : Int32) : Nat → Int32 := (lq_X5_fill_5_ga ru mn pr hg al sd w se (fu 25) (24 * w) ic wm ga fe dr)
noncomputable def q_X5_fill_fe (ru : Nat → Int32) (ic : Nat → Int32) (wm : Nat → Int32) (ga : Nat → Int32) (fe : Nat → Int32) (dr : Nat → Int32) (mn : Nat → Int32) (pr : Nat → Int32) (hg : Nat → Int32) (al : Nat → Int32) (sd : Nat → Int32) (w : Int32) (se : Int32) : Nat → Int32 := (lq_X5_fill_5_fe ru mn pr hg al sd w se (fu 25) (24 * w) ic wm ga fe dr)
noncomputable def q_X5_fill_dr (ru : Nat → Int32) (ic : Nat → Int32) (wm : Nat → Int32) (ga : Nat → Int32) (fe : Nat → Int32) (dr : Nat → Int32) (mn : Nat → Int32) (pr : Nat → Int32) (hg : Nat → Int32) (al : Nat → Int32) (sd : Nat → Int32) (w : Int32) (se : Int32) : Nat → Int32 := (lq_X5_fill_5_dr ru mn pr hg al sd w se (fu 25) (24 * w) ic wm ga fe dr)
noncomputable def q_X5_fill_mn (ru : Nat → Int32) (ic : Nat → Int32) (wm : Nat → Int32) (ga : Nat → Int32) (fe : Nat → Int32) (dr : Nat → Int32) (mn : Nat → Int32) (pr : Nat → Int32) (hg : Nat → Int32) (al : Nat → Int32) (sd : Nat → Int32) (w : Int32) (se : Int32) : Nat → Int32 := (lq_X5_fill_5_mn ru mn pr hg al sd w se (fu 25) (24 * w) ic wm ga fe dr)
noncomputable def q_X5_fill_pr (ru : Nat → Int32) (ic : Nat → Int32) (wm : Nat → Int32) (ga : Nat → Int32) (fe : Nat → Int32) (dr : Nat → Int32) (mn : Nat → Int32) (pr : Nat → Int32) (hg : Nat → Int32) (al : Nat → Int32) (sd : Nat → Int32) (w : Int32) (se : Int32) : Nat → Int32 := (lq_X5_fill_5_pr ru mn pr hg al sd w se (fu 25) (24 * w) ic wm ga fe dr)
noncomputable def q_X5_fill_hg (ru : Nat → Int32) (ic : Nat → Int32) (wm : Nat → Int32) (ga : Nat → Int32) (fe : Nat → Int32) (dr : Nat → Int32) (mn : Nat → Int32) (pr : Nat → Int32) (hg : Nat → Int32) (al : Nat → Int32) (sd : Nat → Int32) (w : Int32) (se : Int32) : Nat → Int32 := (lq_X5_fill_5_hg ru mn pr hg al sd w se (fu 25) (24 * w) ic wm ga fe dr)
noncomputable def q_X5_fill_al (ru : Nat → Int32) (ic : Nat → Int32) (wm : Nat → Int32) (ga : Nat → Int32) (fe : Nat → Int32) (dr : Nat → Int32) (mn : Nat → Int32) (pr : Nat → Int32) (hg : Nat → Int32) (al : Nat → Int32) (sd : Nat → Int32) (w : Int32) (se : Int32) : Nat → Int32 := (lq_X5_fill_5_al ru mn pr hg al sd w se (fu 25) (24 * w) ic wm ga fe dr)
noncomputable def q_X5_fill_sd (ru : Nat → Int32) (ic : Nat → Int32) (wm : Nat → Int32) (ga : Nat → Int32) (fe : Nat → Int32) (dr : Nat → Int32) (mn : Nat → Int32) (pr : Nat → Int32) (hg : Nat → Int32) (al : Nat → Int32) (sd : Nat → Int32) (w : Int32) (se : Int32) : Nat → Int32 := (lq_X5_fill_5_sd ru mn pr hg al sd w se (fu 25) (24 * w) ic wm ga fe dr)
theorem ck_X5_fill : CK yX5_fill cX5_fill 4 none 2 := ⟨wd_3_30, wd_1_7, by decide, by decide, by decide +kernel⟩
set_option maxHeartbeats 4000000 in
set_option maxRecDepth 100000 in
theorem c_X5_fill (l : Launch) (D : va_G) (cI : ClassId) (a : Nat → Nat) (Y : Nat → Int32) (ru : Nat → Int32) (ic : Nat → Int32) (wm : Nat → Int32) (ga : Nat → Int32) (fe : Nat → Int32) (dr : Nat → Int32) (mn : Nat → Int32) (pr : Nat → Int32) (hg : Nat → Int32) (al : Nat → Int32) (sd : Nat → Int32) (w : Int32) (se : Int32) (hw : w = 0 ∨ w = 1) : MV l D cI yX5_fill cX5_fill 4 0 0 [.ref (a 0), .int w, .int se] [yc a Y, ac cI (a 2) 11 ru, ac cI (a 6) 48 ic, ac cI (a 7) 48 wm, ac cI (a 8) 48 ga, ac cI (a 9) 48 fe, ac cI (a 10) 48 dr, ac cI (a 11) 2 mn, ac cI (a 12) 2 pr, ac cI (a 13) 2 hg, ac cI (a 14) 2 al, ac cI (a 15) 2 sd] [yc a Y, ac cI (a 2) 11 ru, ac cI (a 6) 48 (q_X5_fill_ic ru ic wm ga fe dr mn pr hg al sd w se), ac cI (a 7) 48 (q_X5_fill_wm ru ic wm ga fe dr mn pr hg al sd w se), ac cI (a 8) 48 (q_X5_fill_ga ru ic wm ga fe dr mn pr hg al sd w se), ac cI (a 9) 48 (q_X5_fill_fe ru ic wm ga fe dr mn pr hg al sd w se), ac cI (a 10) 48 (q_X5_fill_dr ru ic wm ga fe dr mn pr hg al sd w se), ac cI (a 11) 2 (q_X5_fill_mn ru ic wm ga fe dr mn pr hg al sd w se), ac cI (a 12) 2 (q_X5_fill_pr ru ic wm ga fe dr mn pr hg al sd w se), ac cI (a 13) 2 (q_X5_fill_hg ru ic wm ga fe dr mn pr hg al sd w se), ac cI (a 14) 2 (q_X5_fill_al ru ic wm ga fe dr mn pr hg al sd w se), ac cI (a 15) 2 (q_X5_fill_sd ru ic wm ga fe dr mn pr hg al sd w se)] := by
  generalize ho_ic : (q_X5_fill_ic ru ic wm ga fe dr mn pr hg al sd w se) = o_ic
  generalize ho_wm : (q_X5_fill_wm ru ic wm ga fe dr mn pr hg al sd w se) = o_wm
  generalize ho_ga : (q_X5_fill_ga ru ic wm ga fe dr mn pr hg al sd w se) = o_ga
  generalize ho_fe : (q_X5_fill_fe ru ic wm ga fe dr mn pr hg al sd w se) = o_fe
  generalize ho_dr : (q_X5_fill_dr ru ic wm ga fe dr mn pr hg al sd w se) = o_dr
  generalize ho_mn : (q_X5_fill_mn ru ic wm ga fe dr mn pr hg al sd w se) = o_mn
  generalize ho_pr : (q_X5_fill_pr ru ic wm ga fe dr mn pr hg al sd w se) = o_pr
  generalize ho_hg : (q_X5_fill_hg ru ic wm ga fe dr mn pr hg al sd w se) = o_hg
  generalize ho_al : (q_X5_fill_al ru ic wm ga fe dr mn pr hg al sd w se) = o_al
  generalize ho_sd : (q_X5_fill_sd ru ic wm ga fe dr mn pr hg al sd w se) = o_sd
  refine MV.mk (own := RX5) rfl (by decide) (Nat.le_of_ble_eq_true rfl) ?_
  intro p e s m args below meth c A Q C hD hend H locs ls hP hS hl
  have hx := C.1.1
  have hb := C.1.2.1
  have hl : lv_has ls 4 [(0, .ref (a 0)), (1, .int w), (2, .int se)] := hl
  refine lv_bipush (v := 24) hx hb dX5_fill_0 (by decide) ?_
  refine lv_iload_n hx hb dX5_fill_2 rfl (lv_at hl 1 rfl) ?_
  refine lv_imul hx hb dX5_fill_3 ?_
  refine lv_istore_n (lv' := [(3, .int (24 * w)), (0, .ref (a 0)), (1, .int w), (2, .int se)]) hx hb dX5_fill_4 rfl hl (by decide) rfl (fun ls hl => ?_)
  have lp5 : ∀ (n : Nat) (i : Int32) (ic : Nat → Int32) (wm : Nat → Int32) (ga : Nat → Int32) (fe : Nat → Int32) (dr : Nat → Int32), Int32.toInt (24 * w) ≤ Int32.toInt i → (Int32.toInt ((24 * w) + 24) - Int32.toInt i).toNat < n → lq_X5_fill_5_ic ru mn pr hg al sd w se n i ic wm ga fe dr = o_ic → lq_X5_fill_5_wm ru mn pr hg al sd w se n i ic wm ga fe dr = o_wm → lq_X5_fill_5_ga ru mn pr hg al sd w se n i ic wm ga fe dr = o_ga → lq_X5_fill_5_fe ru mn pr hg al sd w se n i ic wm ga fe dr = o_fe → lq_X5_fill_5_dr ru mn pr hg al sd w se n i ic wm ga fe dr = o_dr → lq_X5_fill_5_mn ru mn pr hg al sd w se n i ic wm ga fe dr = o_mn → lq_X5_fill_5_pr ru mn pr hg al sd w se n i ic wm ga fe dr = o_pr → lq_X5_fill_5_hg ru mn pr hg al sd w se n i ic wm ga fe dr = o_hg → lq_X5_fill_5_al ru mn pr hg al sd w se n i ic wm ga fe dr = o_al → lq_X5_fill_5_sd ru mn pr hg al sd w se n i ic wm ga fe dr = o_sd → ∀ (ls : Array Slot) (H : Heap) (locs : List Loc), lv_has ls 4 [(0, .ref (a 0)), (1, .int w), (2, .int se), (3, .int i)] → va_P D vwCl [yc a Y, ac cI (a 2) 11 ru, ac cI (a 6) 48 ic, ac cI (a 7) 48 wm, ac cI (a 8) 48 ga, ac cI (a 9) 48 fe, ac cI (a 10) 48 dr, ac cI (a 11) 2 mn, ac cI (a 12) 2 pr, ac cI (a 13) 2 hg, ac cI (a 14) 2 al, ac cI (a 15) 2 sd] H → va_D A [yc a Y, ac cI (a 2) 11 ru, ac cI (a 6) 48 ic, ac cI (a 7) 48 wm, ac cI (a 8) 48 ga, ac cI (a 9) 48 fe, ac cI (a 10) 48 dr, ac cI (a 11) 2 mn, ac cI (a 12) 2 pr, ac cI (a 13) 2 hg, ac cI (a 14) 2 al, ac cI (a 15) 2 sd] → va_S A s.heap H locs → W p l e (RM 0 0) s m args below meth c H locs 0 0 Q (F0 m 5 ls []) := by
    clear hl hP hD hS
    intro n
    induction n with
    | zero =>
      intro i ic wm ga fe dr h0 hm
      exact absurd hm (Nat.not_lt_zero _)
    | succ n ih =>
      intro i ic wm ga fe dr h0 hm ho_ic ho_wm ho_ga ho_fe ho_dr ho_mn ho_pr ho_hg ho_al ho_sd ls H locs hl hP hD hS
      refine lv_iload_n hx hb dX5_fill_5 rfl (lv_at hl 3 rfl) ?_
      refine lv_bipush (v := 24) hx hb dX5_fill_6 (by decide) ?_
      refine lv_iload_n hx hb dX5_fill_8 rfl (lv_at hl 1 rfl) ?_
      refine lv_imul hx hb dX5_fill_9 ?_
      refine lv_bipush (v := 24) hx hb dX5_fill_10 (by decide) ?_
      refine lv_iadd hx hb dX5_fill_12 ?_
      refine lv_icmp_ge (tgt := 65) hx hb dX5_fill_13 (by decide) (fun c1 => ?_) (fun c1 => ?_)
      · refine lv_aload_n hx hb dX5_fill_65 rfl (lv_at hl 0 rfl) ?_
        refine kget (v := .ref (a 11)) C hP igX5 rfl 11 (by decide) wd_2_157 0 rfl rfl dX5_fill_66 ?_
        refine lv_iload_n hx hb dX5_fill_69 rfl (lv_at hl 1 rfl) ?_
        refine lv_iconst (v := 0) hx hb dX5_fill_70 (by decide) ?_
        refine kast (ws' := [yc a Y, ac cI (a 2) 11 ru, ac cI (a 6) 48 ic, ac cI (a 7) 48 wm, ac cI (a 8) 48 ga, ac cI (a 9) 48 fe, ac cI (a 10) 48 dr, ac cI (a 11) 2 (upd mn (Int32.toNatClampNeg w) 0), ac cI (a 12) 2 pr, ac cI (a 13) 2 hg, ac cI (a 14) 2 al, ac cI (a 15) 2 sd]) C hP hD hS 7 rfl (in2 hw) (k := (Int32.toNatClampNeg w)) rfl rfl dX5_fill_71 (fun H locs hP hD hS => ?_)
        refine lv_aload_n hx hb dX5_fill_72 rfl (lv_at hl 0 rfl) ?_
        refine kget (v := .ref (a 12)) C hP igX5 rfl 12 (by decide) wd_2_158 0 rfl rfl dX5_fill_73 ?_
        refine lv_iload_n hx hb dX5_fill_76 rfl (lv_at hl 1 rfl) ?_
        refine lv_iload_n hx hb dX5_fill_77 rfl (lv_at hl 2 rfl) ?_
        refine kast (ws' := [yc a Y, ac cI (a 2) 11 ru, ac cI (a 6) 48 ic, ac cI (a 7) 48 wm, ac cI (a 8) 48 ga, ac cI (a 9) 48 fe, ac cI (a 10) 48 dr, ac cI (a 11) 2 (upd mn (Int32.toNatClampNeg w) 0), ac cI (a 12) 2 (upd pr (Int32.toNatClampNeg w) se), ac cI (a 13) 2 hg, ac cI (a 14) 2 al, ac cI (a 15) 2 sd]) C hP hD hS 8 rfl (in2 hw) (k := (Int32.toNatClampNeg w)) rfl rfl dX5_fill_78 (fun H locs hP hD hS => ?_)
        refine lv_aload_n hx hb dX5_fill_79 rfl (lv_at hl 0 rfl) ?_
        refine kget (v := .ref (a 13)) C hP igX5 rfl 13 (by decide) wd_2_159 0 rfl rfl dX5_fill_80 ?_
        refine lv_iload_n hx hb dX5_fill_83 rfl (lv_at hl 1 rfl) ?_
        refine lv_iload_n hx hb dX5_fill_84 rfl (lv_at hl 2 rfl) ?_
        refine kast (ws' := [yc a Y, ac cI (a 2) 11 ru, ac cI (a 6) 48 ic, ac cI (a 7) 48 wm, ac cI (a 8) 48 ga, ac cI (a 9) 48 fe, ac cI (a 10) 48 dr, ac cI (a 11) 2 (upd mn (Int32.toNatClampNeg w) 0), ac cI (a 12) 2 (upd pr (Int32.toNatClampNeg w) se), ac cI (a 13) 2 (upd hg (Int32.toNatClampNeg w) se), ac cI (a 14) 2 al, ac cI (a 15) 2 sd]) C hP hD hS 9 rfl (in2 hw) (k := (Int32.toNatClampNeg w)) rfl rfl dX5_fill_85 (fun H locs hP hD hS => ?_)
        refine lv_aload_n hx hb dX5_fill_86 rfl (lv_at hl 0 rfl) ?_
        refine kget (v := .ref (a 14)) C hP igX5 rfl 14 (by decide) wd_2_160 0 rfl rfl dX5_fill_87 ?_
        refine lv_iload_n hx hb dX5_fill_90 rfl (lv_at hl 1 rfl) ?_
        refine lv_iconst (v := 0) hx hb dX5_fill_91 (by decide) ?_
        refine kast (ws' := [yc a Y, ac cI (a 2) 11 ru, ac cI (a 6) 48 ic, ac cI (a 7) 48 wm, ac cI (a 8) 48 ga, ac cI (a 9) 48 fe, ac cI (a 10) 48 dr, ac cI (a 11) 2 (upd mn (Int32.toNatClampNeg w) 0), ac cI (a 12) 2 (upd pr (Int32.toNatClampNeg w) se), ac cI (a 13) 2 (upd hg (Int32.toNatClampNeg w) se), ac cI (a 14) 2 (upd al (Int32.toNatClampNeg w) 0), ac cI (a 15) 2 sd]) C hP hD hS 10 rfl (in2 hw) (k := (Int32.toNatClampNeg w)) rfl rfl dX5_fill_92 (fun H locs hP hD hS => ?_)
        refine lv_aload_n hx hb dX5_fill_93 rfl (lv_at hl 0 rfl) ?_
        refine kget (v := .ref (a 15)) C hP igX5 rfl 15 (by decide) wd_2_161 0 rfl rfl dX5_fill_94 ?_
        refine lv_iload_n hx hb dX5_fill_97 rfl (lv_at hl 1 rfl) ?_
        refine lv_iconst (v := 0) hx hb dX5_fill_98 (by decide) ?_
        refine kast (ws' := [yc a Y, ac cI (a 2) 11 ru, ac cI (a 6) 48 ic, ac cI (a 7) 48 wm, ac cI (a 8) 48 ga, ac cI (a 9) 48 fe, ac cI (a 10) 48 dr, ac cI (a 11) 2 (upd mn (Int32.toNatClampNeg w) 0), ac cI (a 12) 2 (upd pr (Int32.toNatClampNeg w) se), ac cI (a 13) 2 (upd hg (Int32.toNatClampNeg w) se), ac cI (a 14) 2 (upd al (Int32.toNatClampNeg w) 0), ac cI (a 15) 2 (upd sd (Int32.toNatClampNeg w) 0)]) C hP hD hS 11 rfl (in2 hw) (k := (Int32.toNatClampNeg w)) rfl rfl dX5_fill_99 (fun H locs hP hD hS => ?_)
        exact hend _ _ _ _ (by rw [← ho_ic, lq_X5_fill_5_ic, if_pos c1, ← ho_wm, lq_X5_fill_5_wm, if_pos c1, ← ho_ga, lq_X5_fill_5_ga, if_pos c1, ← ho_fe, lq_X5_fill_5_fe, if_pos c1, ← ho_dr, lq_X5_fill_5_dr, if_pos c1, ← ho_mn, lq_X5_fill_5_mn, if_pos c1, ← ho_pr, lq_X5_fill_5_pr, if_pos c1, ← ho_hg, lq_X5_fill_5_hg, if_pos c1, ← ho_al, lq_X5_fill_5_al, if_pos c1, ← ho_sd, lq_X5_fill_5_sd, if_pos c1]; exact hP) hS dX5_fill_100
      · refine lv_aload_n hx hb dX5_fill_16 rfl (lv_at hl 0 rfl) ?_
        refine kget (v := .ref (a 6)) C hP igX5 rfl 6 (by decide) wd_2_152 0 rfl rfl dX5_fill_17 ?_
        refine lv_iload_n hx hb dX5_fill_20 rfl (lv_at hl 3 rfl) ?_
        refine lv_aload_n hx hb dX5_fill_21 rfl (lv_at hl 0 rfl) ?_
        refine kget (v := .ref (a 2)) C hP igX5 rfl 2 (by decide) wd_2_148 0 rfl rfl dX5_fill_22 ?_
        refine lv_iconst (v := 0) hx hb dX5_fill_25 (by decide) ?_
        refine kald C hP 1 rfl (vp_in_iff.mpr (by decide)) (k := 0) rfl dX5_fill_26 ?_
        refine kast (ws' := [yc a Y, ac cI (a 2) 11 ru, ac cI (a 6) 48 (upd ic (Int32.toNatClampNeg i) (ru 0)), ac cI (a 7) 48 wm, ac cI (a 8) 48 ga, ac cI (a 9) 48 fe, ac cI (a 10) 48 dr, ac cI (a 11) 2 mn, ac cI (a 12) 2 pr, ac cI (a 13) 2 hg, ac cI (a 14) 2 al, ac cI (a 15) 2 sd]) C hP hD hS 2 rfl (inFill hw h0 c1) (k := (Int32.toNatClampNeg i)) rfl rfl dX5_fill_27 (fun H locs hP hD hS => ?_)
        refine lv_aload_n hx hb dX5_fill_28 rfl (lv_at hl 0 rfl) ?_
        refine kget (v := .ref (a 7)) C hP igX5 rfl 7 (by decide) wd_2_153 0 rfl rfl dX5_fill_29 ?_
        refine lv_iload_n hx hb dX5_fill_32 rfl (lv_at hl 3 rfl) ?_
        refine lv_bipush (v := (-6)) hx hb dX5_fill_33 (by decide) ?_
        refine kast (ws' := [yc a Y, ac cI (a 2) 11 ru, ac cI (a 6) 48 (upd ic (Int32.toNatClampNeg i) (ru 0)), ac cI (a 7) 48 (upd wm (Int32.toNatClampNeg i) (-6)), ac cI (a 8) 48 ga, ac cI (a 9) 48 fe, ac cI (a 10) 48 dr, ac cI (a 11) 2 mn, ac cI (a 12) 2 pr, ac cI (a 13) 2 hg, ac cI (a 14) 2 al, ac cI (a 15) 2 sd]) C hP hD hS 3 rfl (inFill hw h0 c1) (k := (Int32.toNatClampNeg i)) rfl rfl dX5_fill_35 (fun H locs hP hD hS => ?_)
        refine lv_aload_n hx hb dX5_fill_36 rfl (lv_at hl 0 rfl) ?_
        refine kget (v := .ref (a 8)) C hP igX5 rfl 8 (by decide) wd_2_154 0 rfl rfl dX5_fill_37 ?_
        refine lv_iload_n hx hb dX5_fill_40 rfl (lv_at hl 3 rfl) ?_
        refine lv_iconst (v := 0) hx hb dX5_fill_41 (by decide) ?_
        refine kast (ws' := [yc a Y, ac cI (a 2) 11 ru, ac cI (a 6) 48 (upd ic (Int32.toNatClampNeg i) (ru 0)), ac cI (a 7) 48 (upd wm (Int32.toNatClampNeg i) (-6)), ac cI (a 8) 48 (upd ga (Int32.toNatClampNeg i) 0), ac cI (a 9) 48 fe, ac cI (a 10) 48 dr, ac cI (a 11) 2 mn, ac cI (a 12) 2 pr, ac cI (a 13) 2 hg, ac cI (a 14) 2 al, ac cI (a 15) 2 sd]) C hP hD hS 4 rfl (inFill hw h0 c1) (k := (Int32.toNatClampNeg i)) rfl rfl dX5_fill_42 (fun H locs hP hD hS => ?_)
        refine lv_aload_n hx hb dX5_fill_43 rfl (lv_at hl 0 rfl) ?_
        refine kget (v := .ref (a 9)) C hP igX5 rfl 9 (by decide) wd_2_155 0 rfl rfl dX5_fill_44 ?_
        refine lv_iload_n hx hb dX5_fill_47 rfl (lv_at hl 3 rfl) ?_
        refine lv_bipush (v := (-6)) hx hb dX5_fill_48 (by decide) ?_
        refine kast (ws' := [yc a Y, ac cI (a 2) 11 ru, ac cI (a 6) 48 (upd ic (Int32.toNatClampNeg i) (ru 0)), ac cI (a 7) 48 (upd wm (Int32.toNatClampNeg i) (-6)), ac cI (a 8) 48 (upd ga (Int32.toNatClampNeg i) 0), ac cI (a 9) 48 (upd fe (Int32.toNatClampNeg i) (-6)), ac cI (a 10) 48 dr, ac cI (a 11) 2 mn, ac cI (a 12) 2 pr, ac cI (a 13) 2 hg, ac cI (a 14) 2 al, ac cI (a 15) 2 sd]) C hP hD hS 5 rfl (inFill hw h0 c1) (k := (Int32.toNatClampNeg i)) rfl rfl dX5_fill_50 (fun H locs hP hD hS => ?_)
        refine lv_aload_n hx hb dX5_fill_51 rfl (lv_at hl 0 rfl) ?_
        refine kget (v := .ref (a 10)) C hP igX5 rfl 10 (by decide) wd_2_156 0 rfl rfl dX5_fill_52 ?_
        refine lv_iload_n hx hb dX5_fill_55 rfl (lv_at hl 3 rfl) ?_
        refine lv_bipush (v := (-6)) hx hb dX5_fill_56 (by decide) ?_
        refine kast (ws' := [yc a Y, ac cI (a 2) 11 ru, ac cI (a 6) 48 (upd ic (Int32.toNatClampNeg i) (ru 0)), ac cI (a 7) 48 (upd wm (Int32.toNatClampNeg i) (-6)), ac cI (a 8) 48 (upd ga (Int32.toNatClampNeg i) 0), ac cI (a 9) 48 (upd fe (Int32.toNatClampNeg i) (-6)), ac cI (a 10) 48 (upd dr (Int32.toNatClampNeg i) (-6)), ac cI (a 11) 2 mn, ac cI (a 12) 2 pr, ac cI (a 13) 2 hg, ac cI (a 14) 2 al, ac cI (a 15) 2 sd]) C hP hD hS 6 rfl (inFill hw h0 c1) (k := (Int32.toNatClampNeg i)) rfl rfl dX5_fill_58 (fun H locs hP hD hS => ?_)
        refine lv_iinc (v := (i + 1)) (lv' := [(3, .int (i + 1)), (0, .ref (a 0)), (1, .int w), (2, .int se)]) hx hb dX5_fill_59 hl (k := 3) rfl rfl (by decide) rfl (fun ls hl => ?_)
        refine lv_goto (tgt := 5) hx hb dX5_fill_62 (by decide) ?_
        exact ih (i + 1) (upd ic (Int32.toNatClampNeg i) (ru 0)) (upd wm (Int32.toNatClampNeg i) (-6)) (upd ga (Int32.toNatClampNeg i) 0) (upd fe (Int32.toNatClampNeg i) (-6)) (upd dr (Int32.toNatClampNeg i) (-6)) (incFill hw h0 c1) (cnt2_lt c1 hm) (by rw [← ho_ic, lq_X5_fill_5_ic, if_neg c1]) (by rw [← ho_wm, lq_X5_fill_5_wm, if_neg c1]) (by rw [← ho_ga, lq_X5_fill_5_ga, if_neg c1]) (by rw [← ho_fe, lq_X5_fill_5_fe, if_neg c1]) (by rw [← ho_dr, lq_X5_fill_5_dr, if_neg c1]) (by rw [← ho_mn, lq_X5_fill_5_mn, if_neg c1]) (by rw [← ho_pr, lq_X5_fill_5_pr, if_neg c1]) (by rw [← ho_hg, lq_X5_fill_5_hg, if_neg c1]) (by rw [← ho_al, lq_X5_fill_5_al, if_neg c1]) (by rw [← ho_sd, lq_X5_fill_5_sd, if_neg c1]) ls H locs (lv_sub hl [1, 2, 3, 0] rfl) hP hD hS
  exact lp5 (fu 25) (24 * w) ic wm ga fe dr (Int.le_refl _) (by rw [fu_eq]; rcases hw with rfl | rfl <;> decide) (by rw [← ho_ic, q_X5_fill_ic]) (by rw [← ho_wm, q_X5_fill_wm]) (by rw [← ho_ga, q_X5_fill_ga]) (by rw [← ho_fe, q_X5_fill_fe]) (by rw [← ho_dr, q_X5_fill_dr]) (by rw [← ho_mn, q_X5_fill_mn]) (by rw [← ho_pr, q_X5_fill_pr]) (by rw [← ho_hg, q_X5_fill_hg]) (by rw [← ho_al, q_X5_fill_al]) (by rw [← ho_sd, q_X5_fill_sd]) ls H locs (lv_sub hl [1, 2, 3, 0] rfl) hP hD hS
def mg_X5_wetOf_24 (ic : Nat → Int32) (w : Int32) (i : Int32) : Int32 := (if (ic (Int32.toNatClampNeg ((24 * w) + i))) ≤ 0 then 0 else 1)
def lr_X5_wetOf_4 (Y : Nat → Int32) (ic : Nat → Int32) (w : Int32) : Nat → (Int32) → (Int32) → (Int32)
  | 0, _, _ => 0
  | n + 1, ct, i => (if (r_X5_vials Y) ≤ i then ct else (lr_X5_wetOf_4 Y ic w n (ct + (mg_X5_wetOf_24 ic w i)) (i + 1)))
noncomputable def r_X5_wetOf (Y : Nat → Int32) (ic : Nat → Int32) (w : Int32) : Int32 := (lr_X5_wetOf_4 Y ic w (fu ((Int32.toInt (r_X5_vials Y)).toNat + 1)) 0 0)
theorem ck_X5_wetOf : CK yX5_wetOf cX5_wetOf 4 (some .int) 1 := ⟨wd_3_61, wd_1_7, by decide, by decide, by decide +kernel⟩
set_option maxHeartbeats 4000000 in
set_option maxRecDepth 100000 in
theorem c_X5_wetOf (l : Launch) (D : va_G) (cI : ClassId) (a : Nat → Nat) (Y : Nat → Int32) (ic : Nat → Int32) (w : Int32) (hw : w = 0 ∨ w = 1) (hv : Int32.toInt (r_X5_vials Y) ≤ 24) : MI l D cI yX5_wetOf cX5_wetOf 4 (some .int) 1 20 [.ref (a 0), .int w] [yc a Y, ac cI (a 6) 48 ic] (r_X5_wetOf Y ic w) [yc a Y, ac cI (a 6) 48 ic] := by
  generalize hr : (r_X5_wetOf Y ic w) = r
  refine MI.mk (own := RX5) rfl (by decide) rfl (Nat.le_of_ble_eq_true rfl) ?_
  intro p e s m args below meth c A Q C hD hend H locs ls hP hS hl
  have hx := C.1.1
  have hb := C.1.2.1
  have hl : lv_has ls 4 [(0, .ref (a 0)), (1, .int w)] := hl
  refine lv_iconst (v := 0) hx hb dX5_wetOf_0 (by decide) ?_
  refine lv_istore_n (lv' := [(2, .int 0), (0, .ref (a 0)), (1, .int w)]) hx hb dX5_wetOf_1 rfl hl (by decide) rfl (fun ls hl => ?_)
  refine lv_iconst (v := 0) hx hb dX5_wetOf_2 (by decide) ?_
  refine lv_istore_n (lv' := [(3, .int 0), (2, .int 0), (0, .ref (a 0)), (1, .int w)]) hx hb dX5_wetOf_3 rfl hl (by decide) rfl (fun ls hl => ?_)
  have lp4 : ∀ (n : Nat) (ct : Int32) (i : Int32), 0 ≤ Int32.toInt i → (Int32.toInt (r_X5_vials Y) - Int32.toInt i).toNat < n → lr_X5_wetOf_4 Y ic w n ct i = r → ∀ (ls : Array Slot) (H : Heap) (locs : List Loc), lv_has ls 4 [(0, .ref (a 0)), (1, .int w), (2, .int ct), (3, .int i)] → va_P D vwCl [yc a Y, ac cI (a 6) 48 ic] H → va_D A [yc a Y, ac cI (a 6) 48 ic] → va_S A s.heap H locs → W p l e (RM 1 20) s m args below meth c H locs 0 0 Q (F0 m 4 ls []) := by
    clear hl hP hD hS
    intro n
    induction n with
    | zero =>
      intro ct i h0 hm
      exact absurd hm (Nat.not_lt_zero _)
    | succ n ih =>
      intro ct i h0 hm hr ls H locs hl hP hD hS
      refine lv_iload_n hx hb dX5_wetOf_4 rfl (lv_at hl 3 rfl) ?_
      refine lv_aload_n hx hb dX5_wetOf_5 rfl (lv_at hl 0 rfl) ?_
      refine go_i (ws' := [yc a Y, ac cI (a 6) 48 ic]) C (rn_V (As := []) (rest := [.int i]) C (c_X5_vials l D cI a Y H.size) ck_X5_vials wd_2_221 wd_0_5 wd_2_219 ⟨Nat.le_of_ble_eq_true rfl, Nat.le_of_ble_eq_true rfl⟩ ⟨Nat.le_refl _, Nat.le_refl _⟩ (ci := 5) (q0 := 0) rfl rfl hP hD hS [0] rfl rfl hl rfl (Nat.le_of_ble_eq_true rfl) dX5_wetOf_6) hP hD hS [0] rfl rfl rfl (fun H locs hP hD hS => ?_)
      refine lv_icmp_ge (tgt := 40) hx hb dX5_wetOf_9 (by decide) (fun c1 => ?_) (fun c1 => ?_)
      · refine lv_iload_n hx hb dX5_wetOf_40 rfl (lv_at hl 2 rfl) ?_
        exact hend _ _ _ _ _ (by rw [← hr, lr_X5_wetOf_4, if_pos c1]) hP hS dX5_wetOf_41
      · refine lv_iload_n hx hb dX5_wetOf_12 rfl (lv_at hl 2 rfl) ?_
        refine lv_aload_n hx hb dX5_wetOf_13 rfl (lv_at hl 0 rfl) ?_
        refine kget (v := .ref (a 6)) C hP igX5 rfl 6 (by decide) wd_2_152 0 rfl rfl dX5_wetOf_14 ?_
        refine lv_bipush (v := 24) hx hb dX5_wetOf_17 (by decide) ?_
        refine lv_iload_n hx hb dX5_wetOf_19 rfl (lv_at hl 1 rfl) ?_
        refine lv_imul hx hb dX5_wetOf_20 ?_
        refine lv_iload_n hx hb dX5_wetOf_21 rfl (lv_at hl 3 rfl) ?_
        refine lv_iadd hx hb dX5_wetOf_22 ?_
        refine kald C hP 1 rfl (in48 hw (inV h0 hv c1)) (k := (Int32.toNatClampNeg ((24 * w) + i))) rfl dX5_wetOf_23 ?_
        have j32 : ∀ (ls : Array Slot) (H : Heap) (locs : List Loc), lv_has ls 4 [(0, .ref (a 0)), (1, .int w), (2, .int ct), (3, .int i)] → va_P D vwCl [yc a Y, ac cI (a 6) 48 ic] H → va_D A [yc a Y, ac cI (a 6) 48 ic] → va_S A s.heap H locs → W p l e (RM 1 20) s m args below meth c H locs 0 0 Q (F0 m 32 ls [.int (mg_X5_wetOf_24 ic w i), .int ct]) := by
          intro ls H locs hl hP hD hS
          refine lv_iadd hx hb dX5_wetOf_32 ?_
          refine lv_istore_n (lv' := [(2, .int (ct + (mg_X5_wetOf_24 ic w i))), (0, .ref (a 0)), (1, .int w), (3, .int i)]) hx hb dX5_wetOf_33 rfl hl (by decide) rfl (fun ls hl => ?_)
          refine lv_iinc (v := (i + 1)) (lv' := [(3, .int (i + 1)), (2, .int (ct + (mg_X5_wetOf_24 ic w i))), (0, .ref (a 0)), (1, .int w)]) hx hb dX5_wetOf_34 hl (k := 3) rfl rfl (by decide) rfl (fun ls hl => ?_)
          refine lv_goto (tgt := 4) hx hb dX5_wetOf_37 (by decide) ?_
          exact ih (ct + (mg_X5_wetOf_24 ic w i)) (i + 1) (inc0 h0 c1) (cnt2_lt c1 hm) (by rw [← hr, lr_X5_wetOf_4, if_neg c1]) ls H locs (lv_sub hl [2, 3, 1, 0] rfl) hP hD hS
        refine lv_if_le (tgt := 31) hx hb dX5_wetOf_24 (by decide) (fun c2 => ?_) (fun c2 => ?_)
        · refine lv_iconst (v := 0) hx hb dX5_wetOf_31 (by decide) ?_
          have e_mg_X5_wetOf_24 : (mg_X5_wetOf_24 ic w i) = 0 := by rw [mg_X5_wetOf_24, if_pos c2]
          have jj := j32
          rw [e_mg_X5_wetOf_24] at jj
          exact jj ls H locs (lv_sub hl [0, 1, 2, 3] rfl) hP hD hS
        · refine lv_iconst (v := 1) hx hb dX5_wetOf_27 (by decide) ?_
          refine lv_goto (tgt := 32) hx hb dX5_wetOf_28 (by decide) ?_
          have e_mg_X5_wetOf_24 : (mg_X5_wetOf_24 ic w i) = 1 := by rw [mg_X5_wetOf_24, if_neg c2]
          have jj := j32
          rw [e_mg_X5_wetOf_24] at jj
          exact jj ls H locs (lv_sub hl [0, 1, 2, 3] rfl) hP hD hS
  exact lp4 (fu ((Int32.toInt (r_X5_vials Y)).toNat + 1)) 0 0 (by decide) (by rw [fu_eq]; have e0 : (0 : Int32).toInt = 0 := rfl; omega) (by rw [← hr, r_X5_wetOf]) ls H locs (lv_sub hl [2, 3, 1, 0] rfl) hP hD hS
theorem inB {b : Int32} (h : b.toInt < 24) (c : ¬ b < 0) : vp_in b 24 := by
  have c1 : ¬ b.toInt < 0 := fun z => c ((tI_lt b 0).mpr z)
  exact vp_in_iff.mpr (by omega)
theorem ltB {v i : Int32} (h0 : 0 ≤ i.toInt) (hv : v.toInt ≤ 24) (c : ¬ v ≤ i) : i.toInt < 24 := (vp_in_iff.mp (inV h0 hv c)).2
def lr_X5_firstOf_5 (Y : Nat → Int32) (fe : Nat → Int32) (w : Int32) : Nat → (Int32) → (Int32) → (Int32)
  | 0, _, _ => 0
  | n + 1, bs, i => (if (r_X5_vials Y) ≤ i then bs else (if (fe (Int32.toNatClampNeg ((24 * w) + i))) < 0 then (lr_X5_firstOf_5 Y fe w n bs (i + 1)) else (if bs < 0 then (lr_X5_firstOf_5 Y fe w n i (i + 1)) else (if (fe (Int32.toNatClampNeg ((24 * w) + bs))) ≤ (fe (Int32.toNatClampNeg ((24 * w) + i))) then (lr_X5_firstOf_5 Y fe w n bs (i + 1)) else (lr_X5_firstOf_5 Y fe w n i (i + 1))))))
noncomputable def r_X5_firstOf (Y : Nat → Int32) (fe : Nat → Int32) (w : Int32) : Int32 := (lr_X5_firstOf_5 Y fe w (fu ((Int32.toInt (r_X5_vials Y)).toNat + 1)) (-6) 0)
theorem ck_X5_firstOf : CK yX5_firstOf cX5_firstOf 5 (some .int) 1 := ⟨wd_3_95, wd_1_7, by decide, by decide, by decide +kernel⟩
set_option maxHeartbeats 4000000 in
set_option maxRecDepth 100000 in
theorem c_X5_firstOf (l : Launch) (D : va_G) (cI : ClassId) (a : Nat → Nat) (Y : Nat → Int32) (fe : Nat → Int32) (w : Int32) (hw : w = 0 ∨ w = 1) (hv : Int32.toInt (r_X5_vials Y) ≤ 24) : MI l D cI yX5_firstOf cX5_firstOf 5 (some .int) 1 20 [.ref (a 0), .int w] [yc a Y, ac cI (a 9) 48 fe] (r_X5_firstOf Y fe w) [yc a Y, ac cI (a 9) 48 fe] := by
  generalize hr : (r_X5_firstOf Y fe w) = r
  refine MI.mk (own := RX5) rfl (by decide) rfl (Nat.le_of_ble_eq_true rfl) ?_
  intro p e s m args below meth c A Q C hD hend H locs ls hP hS hl
  have hx := C.1.1
  have hb := C.1.2.1
  have hl : lv_has ls 5 [(0, .ref (a 0)), (1, .int w)] := hl
  refine lv_bipush (v := (-6)) hx hb dX5_firstOf_0 (by decide) ?_
  refine lv_istore_n (lv' := [(2, .int (-6)), (0, .ref (a 0)), (1, .int w)]) hx hb dX5_firstOf_2 rfl hl (by decide) rfl (fun ls hl => ?_)
  refine lv_iconst (v := 0) hx hb dX5_firstOf_3 (by decide) ?_
  refine lv_istore_n (lv' := [(3, .int 0), (2, .int (-6)), (0, .ref (a 0)), (1, .int w)]) hx hb dX5_firstOf_4 rfl hl (by decide) rfl (fun ls hl => ?_)
  have lp5 : ∀ (n : Nat) (bs : Int32) (i : Int32), 0 ≤ Int32.toInt i → Int32.toInt bs < 24 → (Int32.toInt (r_X5_vials Y) - Int32.toInt i).toNat < n → lr_X5_firstOf_5 Y fe w n bs i = r → ∀ (ls : Array Slot) (H : Heap) (locs : List Loc), lv_has ls 5 [(0, .ref (a 0)), (1, .int w), (2, .int bs), (3, .int i)] → va_P D vwCl [yc a Y, ac cI (a 9) 48 fe] H → va_D A [yc a Y, ac cI (a 9) 48 fe] → va_S A s.heap H locs → W p l e (RM 1 20) s m args below meth c H locs 0 0 Q (F0 m 5 ls []) := by
    clear hl hP hD hS
    intro n
    induction n with
    | zero =>
      intro bs i h0 hb2 hm
      exact absurd hm (Nat.not_lt_zero _)
    | succ n ih =>
      intro bs i h0 hb2 hm hr ls H locs hl hP hD hS
      refine lv_iload_n hx hb dX5_firstOf_5 rfl (lv_at hl 3 rfl) ?_
      refine lv_aload_n hx hb dX5_firstOf_6 rfl (lv_at hl 0 rfl) ?_
      refine go_i (ws' := [yc a Y, ac cI (a 9) 48 fe]) C (rn_V (As := []) (rest := [.int i]) C (c_X5_vials l D cI a Y H.size) ck_X5_vials wd_2_221 wd_0_5 wd_2_219 ⟨Nat.le_of_ble_eq_true rfl, Nat.le_of_ble_eq_true rfl⟩ ⟨Nat.le_refl _, Nat.le_refl _⟩ (ci := 5) (q0 := 0) rfl rfl hP hD hS [0] rfl rfl hl rfl (Nat.le_of_ble_eq_true rfl) dX5_firstOf_7) hP hD hS [0] rfl rfl rfl (fun H locs hP hD hS => ?_)
      refine lv_icmp_ge (tgt := 64) hx hb dX5_firstOf_10 (by decide) (fun c1 => ?_) (fun c1 => ?_)
      · refine lv_iload_n hx hb dX5_firstOf_64 rfl (lv_at hl 2 rfl) ?_
        exact hend _ _ _ _ _ (by rw [← hr, lr_X5_firstOf_5, if_pos c1]) hP hS dX5_firstOf_65
      · refine lv_bipush (v := 24) hx hb dX5_firstOf_13 (by decide) ?_
        refine lv_iload_n hx hb dX5_firstOf_15 rfl (lv_at hl 1 rfl) ?_
        refine lv_imul hx hb dX5_firstOf_16 ?_
        refine lv_iload_n hx hb dX5_firstOf_17 rfl (lv_at hl 3 rfl) ?_
        refine lv_iadd hx hb dX5_firstOf_18 ?_
        refine lv_istore (lv' := [(4, .int ((24 * w) + i)), (0, .ref (a 0)), (1, .int w), (2, .int bs), (3, .int i)]) hx hb dX5_firstOf_19 hl (by decide) rfl (fun ls hl => ?_)
        refine lv_aload_n hx hb dX5_firstOf_21 rfl (lv_at hl 1 rfl) ?_
        refine kget (v := .ref (a 9)) C hP igX5 rfl 9 (by decide) wd_2_155 0 rfl rfl dX5_firstOf_22 ?_
        refine lv_iload hx hb dX5_firstOf_25 (lv_at hl 0 rfl) ?_
        refine kald C hP 1 rfl (in48 hw (inV h0 hv c1)) (k := (Int32.toNatClampNeg ((24 * w) + i))) rfl dX5_firstOf_27 ?_
        refine lv_if_lt (tgt := 58) hx hb dX5_firstOf_28 (by decide) (fun c2 => ?_) (fun c2 => ?_)
        · refine lv_iinc (v := (i + 1)) (lv' := [(3, .int (i + 1)), (4, .int ((24 * w) + i)), (0, .ref (a 0)), (1, .int w), (2, .int bs)]) hx hb dX5_firstOf_58 hl (k := 4) rfl rfl (by decide) rfl (fun ls hl => ?_)
          refine lv_goto (tgt := 5) hx hb dX5_firstOf_61 (by decide) ?_
          exact ih bs (i + 1) (inc0 h0 c1) hb2 (cnt2_lt c1 hm) (by rw [← hr, lr_X5_firstOf_5, if_neg c1, if_pos c2]) ls H locs (lv_sub hl [2, 3, 4, 0] rfl) hP hD hS
        · refine lv_iload_n hx hb dX5_firstOf_31 rfl (lv_at hl 3 rfl) ?_
          refine lv_if_lt (tgt := 56) hx hb dX5_firstOf_32 (by decide) (fun c3 => ?_) (fun c3 => ?_)
          · refine lv_iload_n hx hb dX5_firstOf_56 rfl (lv_at hl 4 rfl) ?_
            refine lv_istore_n (lv' := [(2, .int i), (4, .int ((24 * w) + i)), (0, .ref (a 0)), (1, .int w), (3, .int i)]) hx hb dX5_firstOf_57 rfl hl (by decide) rfl (fun ls hl => ?_)
            refine lv_iinc (v := (i + 1)) (lv' := [(3, .int (i + 1)), (2, .int i), (4, .int ((24 * w) + i)), (0, .ref (a 0)), (1, .int w)]) hx hb dX5_firstOf_58 hl (k := 4) rfl rfl (by decide) rfl (fun ls hl => ?_)
            refine lv_goto (tgt := 5) hx hb dX5_firstOf_61 (by decide) ?_
            exact ih i (i + 1) (inc0 h0 c1) (ltB h0 hv c1) (cnt2_lt c1 hm) (by rw [← hr, lr_X5_firstOf_5, if_neg c1, if_neg c2, if_pos c3]) ls H locs (lv_sub hl [3, 4, 1, 0] rfl) hP hD hS
          · refine lv_aload_n hx hb dX5_firstOf_35 rfl (lv_at hl 1 rfl) ?_
            refine kget (v := .ref (a 9)) C hP igX5 rfl 9 (by decide) wd_2_155 0 rfl rfl dX5_firstOf_36 ?_
            refine lv_iload hx hb dX5_firstOf_39 (lv_at hl 0 rfl) ?_
            refine kald C hP 1 rfl (in48 hw (inV h0 hv c1)) (k := (Int32.toNatClampNeg ((24 * w) + i))) rfl dX5_firstOf_41 ?_
            refine lv_aload_n hx hb dX5_firstOf_42 rfl (lv_at hl 1 rfl) ?_
            refine kget (v := .ref (a 9)) C hP igX5 rfl 9 (by decide) wd_2_155 0 rfl rfl dX5_firstOf_43 ?_
            refine lv_bipush (v := 24) hx hb dX5_firstOf_46 (by decide) ?_
            refine lv_iload_n hx hb dX5_firstOf_48 rfl (lv_at hl 2 rfl) ?_
            refine lv_imul hx hb dX5_firstOf_49 ?_
            refine lv_iload_n hx hb dX5_firstOf_50 rfl (lv_at hl 3 rfl) ?_
            refine lv_iadd hx hb dX5_firstOf_51 ?_
            refine kald C hP 1 rfl (in48 hw (inB hb2 c3)) (k := (Int32.toNatClampNeg ((24 * w) + bs))) rfl dX5_firstOf_52 ?_
            refine lv_icmp_ge (tgt := 58) hx hb dX5_firstOf_53 (by decide) (fun c4 => ?_) (fun c4 => ?_)
            · refine lv_iinc (v := (i + 1)) (lv' := [(3, .int (i + 1)), (4, .int ((24 * w) + i)), (0, .ref (a 0)), (1, .int w), (2, .int bs)]) hx hb dX5_firstOf_58 hl (k := 4) rfl rfl (by decide) rfl (fun ls hl => ?_)
              refine lv_goto (tgt := 5) hx hb dX5_firstOf_61 (by decide) ?_
              exact ih bs (i + 1) (inc0 h0 c1) hb2 (cnt2_lt c1 hm) (by rw [← hr, lr_X5_firstOf_5, if_neg c1, if_neg c2, if_neg c3, if_pos c4]) ls H locs (lv_sub hl [2, 3, 4, 0] rfl) hP hD hS
            · refine lv_iload_n hx hb dX5_firstOf_56 rfl (lv_at hl 4 rfl) ?_
              refine lv_istore_n (lv' := [(2, .int i), (4, .int ((24 * w) + i)), (0, .ref (a 0)), (1, .int w), (3, .int i)]) hx hb dX5_firstOf_57 rfl hl (by decide) rfl (fun ls hl => ?_)
              refine lv_iinc (v := (i + 1)) (lv' := [(3, .int (i + 1)), (2, .int i), (4, .int ((24 * w) + i)), (0, .ref (a 0)), (1, .int w)]) hx hb dX5_firstOf_58 hl (k := 4) rfl rfl (by decide) rfl (fun ls hl => ?_)
              refine lv_goto (tgt := 5) hx hb dX5_firstOf_61 (by decide) ?_
              exact ih i (i + 1) (inc0 h0 c1) (ltB h0 hv c1) (cnt2_lt c1 hm) (by rw [← hr, lr_X5_firstOf_5, if_neg c1, if_neg c2, if_neg c3, if_neg c4]) ls H locs (lv_sub hl [3, 4, 1, 0] rfl) hP hD hS
  exact lp5 (fu ((Int32.toInt (r_X5_vials Y)).toNat + 1)) (-6) 0 (by decide) (by decide) (by rw [fu_eq]; have e0 : (0 : Int32).toInt = 0 := rfl; omega) (by rw [← hr, r_X5_firstOf]) ls H locs (lv_sub hl [2, 3, 1, 0] rfl) hP hD hS
