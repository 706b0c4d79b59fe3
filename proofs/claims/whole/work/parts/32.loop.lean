theorem law_in {L i : Nat} (hL : L ≤ 2048) (hi : i ≤ 4096) (c : ¬ (Int32.ofNat L - 4) < nI i) : i + 4 ≤ L := by
  have e4 : (4 : Int32).toInt = 4 := rfl
  have eL : (Int32.ofNat L).toInt = L := nI_toInt (n := L) (by omega)
  have ei : (nI i).toInt = i := nI_toInt (by omega)
  have c1 : ¬ (Int32.ofNat L - 4).toInt < (nI i).toInt := fun z => c ((tI_lt _ _).mpr z)
  rw [subI (by omega) (by omega)] at c1
  omega
theorem law_at {L i k : Nat} (h : i + k < L) (hL : L ≤ 2048) : vp_in (nI i + nI k) L := by
  rw [nI_add]
  exact vp_in_nI h (by omega)
set_option maxHeartbeats 4000000 in
set_option maxRecDepth 100000 in
theorem law_loop {p : Program} {l : Launch} {e : Env} {s : State} {m : MethodId} {below : List Frame} {meth : Method} {c : Code} {D : va_G} {cI : ClassId} {b N : Nat} {xs : Nat → Int32} {ax ar av ld lg li tb tg ti ah a1 a2 a3 : Nat} {a : Nat → Nat} (hN : N ≤ 2048) (C0 : lw_At p s m meth c b N xs) (C : Ctx p s m #[Value.ref b] c code 4 RL D cI (fun q : Nat => s.heap.size ≤ q)) :
    ∀ (n i : Nat) (X R L G I L2 G2 I2 o1 o2 o3 Y ru ic wm ga fe dr mn pr hg al sd on ot we tr : Nat → Int32) (H : Heap) (locs : List Loc) (ls : Array Slot), i ≤ 4096 → N + 4 - i < n → REL X R L G I L2 G2 I2 o1 o2 o3 Y ru ic wm ga fe dr mn pr hg al sd on ot we tr → va_P D vwCl (lwW cI ax ar av ld lg li tb tg ti ah a1 a2 a3 a X R L G I L2 G2 I2 o1 o2 o3 Y ru ic wm ga fe dr mn pr hg al sd on ot we tr) H → va_D (fun q : Nat => s.heap.size ≤ q) (lwW cI ax ar av ld lg li tb tg ti ah a1 a2 a3 a X R L G I L2 G2 I2 o1 o2 o3 Y ru ic wm ga fe dr mn pr hg al sd on ot we tr) → va_S (fun q : Nat => s.heap.size ≤ q) s.heap H locs → lv_has ls 4 [(0, .ref b), (1, .ref ax), (2, .ref (a 0)), (3, .int (nI i))] → W p l e room_1 s m #[Value.ref b] below meth c H locs 29 12364 (lw_Z below #[Value.ref b] s) (F0 m 18 ls []) := by
  obtain ⟨hx, hb, hr, hml, hown, hts, hX, hbl, hlocks, hgv⟩ := C0
  have hbA : ¬ (fun q : Nat => s.heap.size ≤ q) b := Nat.not_le.mpr hbl
  intro n
  induction n with
  | zero =>
    intro i X R L G I L2 G2 I2 o1 o2 o3 Y ru ic wm ga fe dr mn pr hg al sd on ot we tr H locs ls _ h
    exact absurd h (Nat.not_lt_zero _)
  | succ n ih =>
    intro i X R L G I L2 G2 I2 o1 o2 o3 Y ru ic wm ga fe dr mn pr hg al sd on ot we tr H locs ls hi hn hrel hP hD hS hl
    refine lv_iload_n hx hb dL_law_18 rfl (lv_at hl 3 rfl) ?_
    refine lv_aload_n hx hb dL_law_19 rfl (lv_at hl 0 rfl) ?_
    refine va_slen hx hb hX hbl hbA hS dL_law_20 ?_
    refine lv_iconst (v := 4) hx hb dL_law_21 (by decide) ?_
    refine lv_isub hx hb dL_law_22 ?_
    refine lv_icmp_gt (tgt := 664) hx hb dL_law_23 (by decide) (fun c1 => ?_) (fun c1 => ?_)
    · refine lv_iconst (v := 1) hx hb dL_law_664 (by decide) ?_
      refine va_forget (fun q hq => hS.2.2 q hq) ?_
      exact lw_ret hx hb hr hlocks dL_law_665
    · have h4 := law_in hN hi c1
      have i0 : vp_in (nI i) N := vp_in_nI (by omega) (by omega)
      have i1 : vp_in (nI i + 1) N := law_at (k := 1) (by omega) hN
      have i2 : vp_in (nI i + 2) N := law_at (k := 2) (by omega) hN
      have i3 : vp_in (nI i + 3) N := law_at (k := 3) (by omega) hN
      have kk : ∀ (X R L G I L2 G2 I2 o1 o2 o3 Y ru ic wm ga fe dr mn pr hg al sd on ot we tr : Nat → Int32) (H : Heap) (locs : List Loc), REL X R L G I L2 G2 I2 o1 o2 o3 Y ru ic wm ga fe dr mn pr hg al sd on ot we tr → va_P D vwCl (lwW cI ax ar av ld lg li tb tg ti ah a1 a2 a3 a X R L G I L2 G2 I2 o1 o2 o3 Y ru ic wm ga fe dr mn pr hg al sd on ot we tr) H → va_D (fun q : Nat => s.heap.size ≤ q) (lwW cI ax ar av ld lg li tb tg ti ah a1 a2 a3 a X R L G I L2 G2 I2 o1 o2 o3 Y ru ic wm ga fe dr mn pr hg al sd on ot we tr) → va_S (fun q : Nat => s.heap.size ≤ q) s.heap H locs → W p l e room_1 s m #[Value.ref b] below meth c H locs 29 12364 (lw_Z below #[Value.ref b] s) (F0 m 658 ls []) := by
        intro X R L G I L2 G2 I2 o1 o2 o3 Y ru ic wm ga fe dr mn pr hg al sd on ot we tr H locs hrel hP hD hS
        refine lv_iinc (v := nI (i + 4)) (lv' := [(3, .int (nI (i + 4))), (0, .ref b), (1, .ref ax), (2, .ref (a 0))]) hx hb dL_law_658 hl (k := 3) rfl (nI_add i 4) (by decide) rfl (fun ls hl => ?_)
        refine lv_goto (tgt := 18) hx hb dL_law_661 (by decide) ?_
        exact ih (i + 4) X R L G I L2 G2 I2 o1 o2 o3 Y ru ic wm ga fe dr mn pr hg al sd on ot we tr H locs ls (by omega) (by omega) hrel hP hD hS (lv_sub hl [1, 2, 3, 0] rfl)
      refine lv_aload_n hx hb dL_law_26 rfl (lv_at hl 0 rfl) ?_
      refine lv_iload_n hx hb dL_law_27 rfl (lv_at hl 3 rfl) ?_
      refine va_sld hx hb hX hbl hbA hS i0 dL_law_28 ?_
      refine lv_bipush (v := 31) hx hb dL_law_29 (by decide) ?_
      refine lv_iand hx hb dL_law_31 ?_
      generalize (xs (nI i).toNatClampNeg &&& 31) = z
      by_cases z0 : z = 0
      · refine lv_tableIn (off := 96) (tgt := 128) hx hb dL_law_32 (by rw [z0]; decide) (by rw [z0]; decide) (by rw [z0]; rfl) (by decide) ?_
        exact lk_shelf C hX hbl hbA i1 i2 i3 hrel hP hD hS hl kk
      by_cases z1 : z = 1
      · refine lv_tableIn (off := 129) (tgt := 161) hx hb dL_law_32 (by rw [z1]; decide) (by rw [z1]; decide) (by rw [z1]; rfl) (by decide) ?_
        exact lk_rule C hX hbl hbA i1 i2 i3 hrel hP hD hS hl kk
      by_cases z2 : z = 2
      · refine lv_tableIn (off := 162) (tgt := 194) hx hb dL_law_32 (by rw [z2]; decide) (by rw [z2]; decide) (by rw [z2]; rfl) (by decide) ?_
        exact lk_vapour C hX hbl hbA i1 i2 i3 hrel hP hD hS hl kk
      by_cases z3 : z = 3
      · refine lv_tableIn (off := 185) (tgt := 217) hx hb dL_law_32 (by rw [z3]; decide) (by rw [z3]; decide) (by rw [z3]; rfl) (by decide) ?_
        exact lk_steam C hX hbl hbA i1 i2 i3 hrel hP hD hS hl kk
      by_cases z4 : z = 4
      · refine lv_tableIn (off := 228) (tgt := 260) hx hb dL_law_32 (by rw [z4]; decide) (by rw [z4]; decide) (by rw [z4]; rfl) (by decide) ?_
        exact lk_rim C hX hbl hbA i1 i2 i3 hrel hP hD hS hl kk
      by_cases z5 : z = 5
      · refine lv_tableIn (off := 251) (tgt := 283) hx hb dL_law_32 (by rw [z5]; decide) (by rw [z5]; decide) (by rw [z5]; rfl) (by decide) ?_
        exact lk_load C hX hbl hbA i1 i2 i3 hrel hP hD hS hl kk
      by_cases z6 : z = 6
      · refine lv_tableIn (off := 264) (tgt := 296) hx hb dL_law_32 (by rw [z6]; decide) (by rw [z6]; decide) (by rw [z6]; rfl) (by decide) ?_
        exact lk_warm C hX hbl hbA i1 i2 i3 hrel hP hD hS hl kk
      by_cases z7 : z = 7
      · refine lv_tableIn (off := 287) (tgt := 319) hx hb dL_law_32 (by rw [z7]; decide) (by rw [z7]; decide) (by rw [z7]; rfl) (by decide) ?_
        exact lk_set C hX hbl hbA i1 i2 i3 hrel hP hD hS hl kk
      by_cases z8 : z = 8
      · refine lv_tableIn (off := 310) (tgt := 342) hx hb dL_law_32 (by rw [z8]; decide) (by rw [z8]; decide) (by rw [z8]; rfl) (by decide) ?_
        exact lk_run C hX hbl hbA i1 i2 i3 hrel hP hD hS hl kk
      by_cases z9 : z = 9
      · refine lv_tableIn (off := 333) (tgt := 365) hx hb dL_law_32 (by rw [z9]; decide) (by rw [z9]; decide) (by rw [z9]; rfl) (by decide) ?_
        exact lk_unload C hX hbl hbA i1 i2 i3 hrel hP hD hS hl kk
      by_cases z10 : z = 10
      · refine lv_tableIn (off := 346) (tgt := 378) hx hb dL_law_32 (by rw [z10]; decide) (by rw [z10]; decide) (by rw [z10]; rfl) (by decide) ?_
        exact lk_vial C hX hbl hbA i1 i2 i3 hrel hP hD hS hl kk
      by_cases z11 : z = 11
      · refine lv_tableIn (off := 379) (tgt := 411) hx hb dL_law_32 (by rw [z11]; decide) (by rw [z11]; decide) (by rw [z11]; rfl) (by decide) ?_
        exact lk_about C hX hbl hbA i1 i2 i3 hrel hP hD hS hl kk
      by_cases z12 : z = 12
      · refine lv_tableIn (off := 402) (tgt := 434) hx hb dL_law_32 (by rw [z12]; decide) (by rw [z12]; decide) (by rw [z12]; rfl) (by decide) ?_
        exact lk_gauge C hX hbl hbA i1 i2 i3 hrel hP hD hS hl kk
      by_cases z13 : z = 13
      · refine lv_tableIn (off := 435) (tgt := 467) hx hb dL_law_32 (by rw [z13]; decide) (by rw [z13]; decide) (by rw [z13]; rfl) (by decide) ?_
        exact lk_end C hX hbl hbA i1 i2 i3 hrel hP hD hS hl kk
      by_cases z14 : z = 14
      · refine lv_tableIn (off := 468) (tgt := 500) hx hb dL_law_32 (by rw [z14]; decide) (by rw [z14]; decide) (by rw [z14]; rfl) (by decide) ?_
        exact lk_wet C hX hbl hbA i1 i2 i3 hrel hP hD hS hl kk
      by_cases z15 : z = 15
      · refine lv_tableIn (off := 491) (tgt := 523) hx hb dL_law_32 (by rw [z15]; decide) (by rw [z15]; decide) (by rw [z15]; rfl) (by decide) ?_
        exact lk_firstFallen C hX hbl hbA i1 i2 i3 hrel hP hD hS hl kk
      by_cases z16 : z = 16
      · refine lv_tableIn (off := 504) (tgt := 536) hx hb dL_law_32 (by rw [z16]; decide) (by rw [z16]; decide) (by rw [z16]; rfl) (by decide) ?_
        exact lk_trial C hX hbl hbA i1 i2 i3 hrel hP hD hS hl kk
      by_cases z17 : z = 17
      · refine lv_tableIn (off := 547) (tgt := 579) hx hb dL_law_32 (by rw [z17]; decide) (by rw [z17]; decide) (by rw [z17]; rfl) (by decide) ?_
        exact lk_tried C hX hbl hbA i1 i2 i3 hrel hP hD hS hl kk
      by_cases z18 : z = 18
      · refine lv_tableIn (off := 570) (tgt := 602) hx hb dL_law_32 (by rw [z18]; decide) (by rw [z18]; decide) (by rw [z18]; rfl) (by decide) ?_
        exact lk_edge C hX hbl hbA i1 i2 i3 hrel hP hD hS hl kk
      by_cases z19 : z = 19
      · refine lv_tableIn (off := 603) (tgt := 635) hx hb dL_law_32 (by rw [z19]; decide) (by rw [z19]; decide) (by rw [z19]; rfl) (by decide) ?_
        exact lk_told C hX hbl hbA i1 i2 i3 hrel hP hD hS hl kk
      refine lv_tableOut (tgt := 658) hx hb dL_law_32 (ts_out (fun k h1 h2 => by rcases (by omega : k = 0 ∨ k = 1 ∨ k = 2 ∨ k = 3 ∨ k = 4 ∨ k = 5 ∨ k = 6 ∨ k = 7 ∨ k = 8 ∨ k = 9 ∨ k = 10 ∨ k = 11 ∨ k = 12 ∨ k = 13 ∨ k = 14 ∨ k = 15 ∨ k = 16 ∨ k = 17 ∨ k = 18 ∨ k = 19) with rfl | rfl | rfl | rfl | rfl | rfl | rfl | rfl | rfl | rfl | rfl | rfl | rfl | rfl | rfl | rfl | rfl | rfl | rfl | rfl <;> assumption)) (by decide) ?_
      exact kk X R L G I L2 G2 I2 o1 o2 o3 Y ru ic wm ga fe dr mn pr hg al sd on ot we tr H locs hrel hP hD hS
