set_option maxHeartbeats 4000000 in
set_option maxRecDepth 100000 in
theorem lv_trial {p : Program} {l : Launch} {e : Env} {s : State} {m : MethodId} {below : List Frame} {meth : Method} {c : Code} {D : va_G} {cI : ClassId} {A : Nat → Prop} {b N : Nat} {xs : Nat → Int32} {ax ar av ld lg li tb tg ti ah a1 a2 a3 : Nat} {a : Nat → Nat} {X R L G I L2 G2 I2 o1 o2 o3 Y ru ic wm ga fe dr mn pr hg al sd on ot we tr : Nat → Int32} {H : Heap} {locs : List Loc} {ls : Array Slot} {x : Int32} {Q : State → Prop} (C : Ctx p s m #[Value.ref b] c code 4 RL D cI A) (hX : va_X b N xs s s.heap) (hbl : b < s.heap.size) (hbA : ¬ A b) (i1 : vp_in (x + 1) N) (i2 : vp_in (x + 2) N) (i3 : vp_in (x + 3) N) (hP : va_P D vwCl (lwW cI ax ar av ld lg li tb tg ti ah a1 a2 a3 a X R L G I L2 G2 I2 o1 o2 o3 Y ru ic wm ga fe dr mn pr hg al sd on ot we tr) H) (hD : va_D A (lwW cI ax ar av ld lg li tb tg ti ah a1 a2 a3 a X R L G I L2 G2 I2 o1 o2 o3 Y ru ic wm ga fe dr mn pr hg al sd on ot we tr)) (hS : va_S A s.heap H locs) (hl : lv_has ls 4 [(0, .ref b), (1, .ref ax), (2, .ref (a 0)), (3, .int x)]) {X' L2' G2' I2' Y' ic' wm' ga' fe' dr' mn' pr' hg' al' sd' tr' : Nat → Int32} {r4 r5 : Int32} (c4 : MI l D cI yX4_trial cX4_trial 4 (some .int) 6 149 [.ref ax, .int (xs (Int32.toNatClampNeg (x + 1))), .int (xs (Int32.toNatClampNeg (x + 2))), .int (xs (Int32.toNatClampNeg (x + 3)))] [xc ax ar ld tb ah X, rc ar av, ac cI av 11 R, lc tb tg ti L2, gc tg G2, gc ti I2] r4 [xc ax ar ld tb ah X', rc ar av, ac cI av 11 R, lc tb tg ti L2', gc tg G2', gc ti I2']) (c5 : MI l D cI yX5_trial cX5_trial 5 (some .int) 7 172 [.ref (a 0), .int (xs (Int32.toNatClampNeg (x + 1))), .int (xs (Int32.toNatClampNeg (x + 2))), .int (xs (Int32.toNatClampNeg (x + 3)))] [yc a Y, ac cI (a 2) 11 ru, ac cI (a 6) 48 ic, ac cI (a 7) 48 wm, ac cI (a 8) 48 ga, ac cI (a 9) 48 fe, ac cI (a 10) 48 dr, ac cI (a 11) 2 mn, ac cI (a 12) 2 pr, ac cI (a 13) 2 hg, ac cI (a 14) 2 al, ac cI (a 15) 2 sd, ac cI (a 20) 5 tr] r5 [yc a Y', ac cI (a 2) 11 ru, ac cI (a 6) 48 ic', ac cI (a 7) 48 wm', ac cI (a 8) 48 ga', ac cI (a 9) 48 fe', ac cI (a 10) 48 dr', ac cI (a 11) 2 mn', ac cI (a 12) 2 pr', ac cI (a 13) 2 hg', ac cI (a 14) 2 al', ac cI (a 15) 2 sd', ac cI (a 20) 5 tr']) (ho : r4 = r5 ∧ REL X' R L G I L2' G2' I2' o1 o2 o3 Y' ru ic' wm' ga' fe' dr' mn' pr' hg' al' sd' on ot we tr') (kk : ∀ (X R L G I L2 G2 I2 o1 o2 o3 Y ru ic wm ga fe dr mn pr hg al sd on ot we tr : Nat → Int32) (H : Heap) (locs : List Loc), REL X R L G I L2 G2 I2 o1 o2 o3 Y ru ic wm ga fe dr mn pr hg al sd on ot we tr → va_P D vwCl (lwW cI ax ar av ld lg li tb tg ti ah a1 a2 a3 a X R L G I L2 G2 I2 o1 o2 o3 Y ru ic wm ga fe dr mn pr hg al sd on ot we tr) H → va_D A (lwW cI ax ar av ld lg li tb tg ti ah a1 a2 a3 a X R L G I L2 G2 I2 o1 o2 o3 Y ru ic wm ga fe dr mn pr hg al sd on ot we tr) → va_S A s.heap H locs → W p l e room_1 s m #[Value.ref b] below meth c H locs 29 12364 Q (F0 m 658 ls [])) : W p l e room_1 s m #[Value.ref b] below meth c H locs 29 12364 Q (F0 m 536 ls []) := by
  have hx := C.1.1
  have hb := C.1.2.1
  refine lv_aload_n hx hb dL_law_536 rfl (lv_at hl 1 rfl) ?_
  refine lv_aload_n hx hb dL_law_537 rfl (lv_at hl 0 rfl) ?_
  refine lv_iload_n hx hb dL_law_538 rfl (lv_at hl 3 rfl) ?_
  refine lv_iconst (v := 1) hx hb dL_law_539 (by decide) ?_
  refine lv_iadd hx hb dL_law_540 ?_
  refine va_sld hx hb hX hbl hbA hS i1 dL_law_541 ?_
  refine lv_aload_n hx hb dL_law_542 rfl (lv_at hl 0 rfl) ?_
  refine lv_iload_n hx hb dL_law_543 rfl (lv_at hl 3 rfl) ?_
  refine lv_iconst (v := 2) hx hb dL_law_544 (by decide) ?_
  refine lv_iadd hx hb dL_law_545 ?_
  refine va_sld hx hb hX hbl hbA hS i2 dL_law_546 ?_
  refine lv_aload_n hx hb dL_law_547 rfl (lv_at hl 0 rfl) ?_
  refine lv_iload_n hx hb dL_law_548 rfl (lv_at hl 3 rfl) ?_
  refine lv_iconst (v := 3) hx hb dL_law_549 (by decide) ?_
  refine lv_iadd hx hb dL_law_550 ?_
  refine va_sld hx hb hX hbl hbA hS i3 dL_law_551 ?_
  refine go_i (ws' := (lwW cI ax ar av ld lg li tb tg ti ah a1 a2 a3 a X' R L G I L2' G2' I2' o1 o2 o3 Y ru ic wm ga fe dr mn pr hg al sd on ot we tr)) C (rn_V (As := [.int (xs (Int32.toNatClampNeg (x + 1))), .int (xs (Int32.toNatClampNeg (x + 2))), .int (xs (Int32.toNatClampNeg (x + 3)))]) (rest := []) C (c4 H.size) ck_X4_trial wd_2_115 wd_2_116 wd_2_114 ⟨Nat.le_of_ble_eq_true rfl, Nat.le_of_ble_eq_true rfl⟩ ⟨by decide, by decide⟩ (ci := 4) (q0 := 0) rfl rfl hP hD hS [0, 1, 2, 6, 7, 8] rfl rfl hl rfl (Nat.le_of_ble_eq_true rfl) dL_law_552) hP hD hS [0, 1, 2, 6, 7, 8] rfl rfl rfl (fun H locs hP hD hS => ?_)
  refine lv_aload_n hx hb dL_law_555 rfl (lv_at hl 2 rfl) ?_
  refine lv_aload_n hx hb dL_law_556 rfl (lv_at hl 0 rfl) ?_
  refine lv_iload_n hx hb dL_law_557 rfl (lv_at hl 3 rfl) ?_
  refine lv_iconst (v := 1) hx hb dL_law_558 (by decide) ?_
  refine lv_iadd hx hb dL_law_559 ?_
  refine va_sld hx hb hX hbl hbA hS i1 dL_law_560 ?_
  refine lv_aload_n hx hb dL_law_561 rfl (lv_at hl 0 rfl) ?_
  refine lv_iload_n hx hb dL_law_562 rfl (lv_at hl 3 rfl) ?_
  refine lv_iconst (v := 2) hx hb dL_law_563 (by decide) ?_
  refine lv_iadd hx hb dL_law_564 ?_
  refine va_sld hx hb hX hbl hbA hS i2 dL_law_565 ?_
  refine lv_aload_n hx hb dL_law_566 rfl (lv_at hl 0 rfl) ?_
  refine lv_iload_n hx hb dL_law_567 rfl (lv_at hl 3 rfl) ?_
  refine lv_iconst (v := 3) hx hb dL_law_568 (by decide) ?_
  refine lv_iadd hx hb dL_law_569 ?_
  refine va_sld hx hb hX hbl hbA hS i3 dL_law_570 ?_
  refine go_i (ws' := (lwW cI ax ar av ld lg li tb tg ti ah a1 a2 a3 a X' R L G I L2' G2' I2' o1 o2 o3 Y' ru ic' wm' ga' fe' dr' mn' pr' hg' al' sd' on ot we tr')) C (rn_V (As := [.int (xs (Int32.toNatClampNeg (x + 1))), .int (xs (Int32.toNatClampNeg (x + 2))), .int (xs (Int32.toNatClampNeg (x + 3)))]) (rest := [.int r4]) C (c5 H.size) ck_X5_trial wd_3_97 wd_3_98 wd_3_96 ⟨Nat.le_of_ble_eq_true rfl, Nat.le_of_ble_eq_true rfl⟩ ⟨by decide, by decide⟩ (ci := 5) (q0 := 13) rfl rfl hP hD hS [13, 14, 15, 16, 17, 18, 19, 20, 21, 22, 23, 24, 28] rfl rfl hl rfl (Nat.le_of_ble_eq_true rfl) dL_law_571) hP hD hS [13, 14, 15, 16, 17, 18, 19, 20, 21, 22, 23, 24, 28] rfl rfl rfl (fun H locs hP hD hS => ?_)
  refine lv_icmp_eq (tgt := 658) hx hb dL_law_574 (by decide) (fun c1 => ?_) (fun c1 => ?_)
  · exact kk X' R L G I L2' G2' I2' o1 o2 o3 Y' ru ic' wm' ga' fe' dr' mn' pr' hg' al' sd' on ot we tr' H locs ho.2 hP hD hS
  · exact absurd ho.1 c1
theorem lk_trial {p : Program} {l : Launch} {e : Env} {s : State} {m : MethodId} {below : List Frame} {meth : Method} {c : Code} {D : va_G} {cI : ClassId} {A : Nat → Prop} {b N : Nat} {xs : Nat → Int32} {ax ar av ld lg li tb tg ti ah a1 a2 a3 : Nat} {a : Nat → Nat} {X R L G I L2 G2 I2 o1 o2 o3 Y ru ic wm ga fe dr mn pr hg al sd on ot we tr : Nat → Int32} {H : Heap} {locs : List Loc} {ls : Array Slot} {x : Int32} {Q : State → Prop} (C : Ctx p s m #[Value.ref b] c code 4 RL D cI A) (hX : va_X b N xs s s.heap) (hbl : b < s.heap.size) (hbA : ¬ A b) (i1 : vp_in (x + 1) N) (i2 : vp_in (x + 2) N) (i3 : vp_in (x + 3) N) (hrel : REL X R L G I L2 G2 I2 o1 o2 o3 Y ru ic wm ga fe dr mn pr hg al sd on ot we tr) (hP : va_P D vwCl (lwW cI ax ar av ld lg li tb tg ti ah a1 a2 a3 a X R L G I L2 G2 I2 o1 o2 o3 Y ru ic wm ga fe dr mn pr hg al sd on ot we tr) H) (hD : va_D A (lwW cI ax ar av ld lg li tb tg ti ah a1 a2 a3 a X R L G I L2 G2 I2 o1 o2 o3 Y ru ic wm ga fe dr mn pr hg al sd on ot we tr)) (hS : va_S A s.heap H locs) (hl : lv_has ls 4 [(0, .ref b), (1, .ref ax), (2, .ref (a 0)), (3, .int x)]) (kk : ∀ (X R L G I L2 G2 I2 o1 o2 o3 Y ru ic wm ga fe dr mn pr hg al sd on ot we tr : Nat → Int32) (H : Heap) (locs : List Loc), REL X R L G I L2 G2 I2 o1 o2 o3 Y ru ic wm ga fe dr mn pr hg al sd on ot we tr → va_P D vwCl (lwW cI ax ar av ld lg li tb tg ti ah a1 a2 a3 a X R L G I L2 G2 I2 o1 o2 o3 Y ru ic wm ga fe dr mn pr hg al sd on ot we tr) H → va_D A (lwW cI ax ar av ld lg li tb tg ti ah a1 a2 a3 a X R L G I L2 G2 I2 o1 o2 o3 Y ru ic wm ga fe dr mn pr hg al sd on ot we tr) → va_S A s.heap H locs → W p l e room_1 s m #[Value.ref b] below meth c H locs 29 12364 Q (F0 m 658 ls [])) : W p l e room_1 s m #[Value.ref b] below meth c H locs 29 12364 Q (F0 m 536 ls []) :=
  lv_trial C hX hbl hbA i1 i2 i3 hP hD hS hl (c_X4_trial l D cI ax ar ld tb ah X av R tg ti L2 G2 I2 (xs (Int32.toNatClampNeg (x + 1))) (xs (Int32.toNatClampNeg (x + 2))) (xs (Int32.toNatClampNeg (x + 3)))) (c_X5_trial l D cI a Y ru ic wm ga fe dr mn pr hg al sd tr (xs (Int32.toNatClampNeg (x + 1))) (xs (Int32.toNatClampNeg (x + 2))) (xs (Int32.toNatClampNeg (x + 3))) hrel.1.2.2 hrel.1.2.1) (op_trial hrel) kk
