/-! THE CLAIM OUT OF ONE WALK OF THE LAW'S BODY. Your part is whole_start (and what it stands on); all else here is the same for every law, but numbers. -/
def R_law : String := "ColdDryerLaw"
def lw_P (b : Addr) (xs : List Int32) (args : Array Value) (s : State) : Prop := args = #[.ref b] ∧ s.IntsAt b xs ∧ xs.length ≤ 2048 ∧ (Jvm.Cond.and given_1 narrow_1).before args s = true
def lw_Q (_ : Array Value) (s : State) (o : Outcome) (t : State) : Prop := o = .returned (some (.int 1)) ∧ Framed s o t [] 29 12364
def lw_Z (below : List Frame) (a : Array Value) (s : State) : State → Prop := fun t => ∃ o, t.status = .running ∧ Ended t below o ∧ lw_Q a s o t
/-- the law's own end, with 1 on the stack, nothing written that was there before, its room as the claim has it -/
theorem lw_ret {p : Program} {l : Launch} {e : Env} {s : State} {m : MethodId} {below : List Frame} {meth : Method} {c : Code} {b : Nat} (hx : p.tables.exec = Jvm.exec) (hb : c.code = code) (hr : meth.sig.returnType = ret) (hlocks : meth.locks = false) {pc : Nat} {H : Heap} {ls : Array Slot} (hdg : decode code pc = .ok (.ireturn, 1)) : W p l e room_1 s m #[Value.ref b] below meth c H [] 29 12364 (lw_Z below #[Value.ref b] s) (F0 m pc ls [.int 1]) := by
  intro T hT X
  obtain ⟨fs, hret, hrun, hended, hW, hframe⟩ := X.leave (v := some (.int 1)) (hlocks := hlocks) (fun h => by rw [hr] at h; cases h)
  have hmeth' : T.vm.method? m = some meth := X.method'
  refine ⟨T.setFrames fs, ?_, .returned (some (.int 1)), hrun, hended, rfl, ⟨_, rfl⟩, hW, hframe⟩
  jvm_step X.here [X.here.top, hx, hb, hdg, hmeth', hr, ret, narrow_b1]
  (try refine ⟨rfl, ?_⟩); (try refine ⟨rfl, ?_⟩)
  first | (intro acts; rw [hret _ acts rfl rfl rfl]) | rw [hret _ _ rfl rfl rfl]
  exact Steps.refl _
/-- what holds at the law's entry: the machine, the code, the tables' words (any of lw_tbl by 'hts w (by decide +kernel)'), the script of L ints xs at the cell b, what the Statement gives of the start (any of its parts by flat_of_before) -/
def lw_At (p : Program) (s : State) (m : MethodId) (meth : Method) (c : Code) (b L : Nat) (xs : Nat → Int32) : Prop :=
  p.tables.exec = Jvm.exec ∧ c.code = code ∧ meth.sig.returnType = ret ∧ c.maxLocals = 4 ∧ s.vm.findClass R_law = some m.cls ∧ (∀ w ∈ lw_tbl, w.before #[Value.ref b] s = true) ∧ va_X b L xs s s.heap ∧ b < s.heap.size ∧ meth.locks = false ∧ (Jvm.Cond.and given_1 narrow_1).before #[Value.ref b] s = true
abbrev lwW (cI : ClassId) (ax ar av ld lg li tb tg ti ah a1 a2 a3 : Nat) (a : Nat → Nat) (X R L G I L2 G2 I2 o1 o2 o3 Y ru ic wm ga fe dr mn pr hg al sd on ot we tr : Nat → Int32) : va_W := [xc ax ar ld tb ah X, rc ar av, ac cI av 11 R, lc ld lg li L, gc lg G, gc li I, lc tb tg ti L2, gc tg G2, gc ti I2, hc ah a1 a2 a3, ac cI a1 2001 o1, ac cI a2 2001 o2, ac cI a3 2001 o3, yc a Y, ac cI (a 2) 11 ru, ac cI (a 6) 48 ic, ac cI (a 7) 48 wm, ac cI (a 8) 48 ga, ac cI (a 9) 48 fe, ac cI (a 10) 48 dr, ac cI (a 11) 2 mn, ac cI (a 12) 2 pr, ac cI (a 13) 2 hg, ac cI (a 14) 2 al, ac cI (a 15) 2 sd, ac cI (a 16) 2001 on, ac cI (a 17) 2001 ot, ac cI (a 18) 2001 we, ac cI (a 20) 5 tr]
set_option maxHeartbeats 4000000 in
set_option maxRecDepth 100000 in
theorem lk_shelf {p : Program} {l : Launch} {e : Env} {s : State} {m : MethodId} {below : List Frame} {meth : Method} {c : Code} {D : va_G} {cI : ClassId} {A : Nat → Prop} {b N : Nat} {xs : Nat → Int32} {ax ar av ld lg li tb tg ti ah a1 a2 a3 : Nat} {a : Nat → Nat} {X R L G I L2 G2 I2 o1 o2 o3 Y ru ic wm ga fe dr mn pr hg al sd on ot we tr : Nat → Int32} {H : Heap} {locs : List Loc} {ls : Array Slot} {x : Int32} {Q : State → Prop} (C : Ctx p s m #[Value.ref b] c code 4 RL D cI A) (hX : va_X b N xs s s.heap) (hbl : b < s.heap.size) (hbA : ¬ A b) (i1 : vp_in (x + 1) N) (i2 : vp_in (x + 2) N) (i3 : vp_in (x + 3) N) (hrel : REL X R L G I L2 G2 I2 o1 o2 o3 Y ru ic wm ga fe dr mn pr hg al sd on ot we tr) (hP : va_P D vwCl (lwW cI ax ar av ld lg li tb tg ti ah a1 a2 a3 a X R L G I L2 G2 I2 o1 o2 o3 Y ru ic wm ga fe dr mn pr hg al sd on ot we tr) H) (hD : va_D A (lwW cI ax ar av ld lg li tb tg ti ah a1 a2 a3 a X R L G I L2 G2 I2 o1 o2 o3 Y ru ic wm ga fe dr mn pr hg al sd on ot we tr)) (hS : va_S A s.heap H locs) (hl : lv_has ls 4 [(0, .ref b), (1, .ref ax), (2, .ref (a 0)), (3, .int x)]) (kk : ∀ (X R L G I L2 G2 I2 o1 o2 o3 Y ru ic wm ga fe dr mn pr hg al sd on ot we tr : Nat → Int32) (H : Heap) (locs : List Loc), REL X R L G I L2 G2 I2 o1 o2 o3 Y ru ic wm ga fe dr mn pr hg al sd on ot we tr → va_P D vwCl (lwW cI ax ar av ld lg li tb tg ti ah a1 a2 a3 a X R L G I L2 G2 I2 o1 o2 o3 Y ru ic wm ga fe dr mn pr hg al sd on ot we tr) H → va_D A (lwW cI ax ar av ld lg li tb tg ti ah a1 a2 a3 a X R L G I L2 G2 I2 o1 o2 o3 Y ru ic wm ga fe dr mn pr hg al sd on ot we tr) → va_S A s.heap H locs → W p l e room_1 s m #[Value.ref b] below meth c H locs 29 12364 Q (F0 m 658 ls [])) : W p l e room_1 s m #[Value.ref b] below meth c H locs 29 12364 Q (F0 m 128 ls []) := by
  have hx := C.1.1
  have hb := C.1.2.1
  have hY : SH Y := hrel.1.2.2
  have hRB : RB ru := hrel.1.2.1
  have hv := sh_hv hY
  have h1 := sh_h1 hY
  have hc := sh_hc hY
  have hwm := hrel.2.2.1.1
  have hps := hrel.2.2.1.2
  have hm2 : Int32.toInt (mn 0) ≤ 2000 := by rw [hrel.2.2.2.1.1]; exact hrel.2.2.2.1.2.2
  have hmo : Int32.toInt (L 2) < 2147483647 := by have := hrel.2.2.2.1.2.2; omega
  have hld : ¬ Y 3 = 0 → MREL Y 0 ru ic wm ga fe dr mn pr hg al sd := fun z => ⟨_, _, _, hrel.2.2.2.2.1 z⟩
  refine lv_aload_n hx hb dL_law_128 rfl (lv_at hl 1 rfl) ?_
  refine lv_aload_n hx hb dL_law_129 rfl (lv_at hl 0 rfl) ?_
  refine lv_iload_n hx hb dL_law_130 rfl (lv_at hl 3 rfl) ?_
  refine lv_iconst (v := 1) hx hb dL_law_131 (by decide) ?_
  refine lv_iadd hx hb dL_law_132 ?_
  refine va_sld hx hb hX hbl hbA hS i1 dL_law_133 ?_
  refine lv_aload_n hx hb dL_law_134 rfl (lv_at hl 0 rfl) ?_
  refine lv_iload_n hx hb dL_law_135 rfl (lv_at hl 3 rfl) ?_
  refine lv_iconst (v := 2) hx hb dL_law_136 (by decide) ?_
  refine lv_iadd hx hb dL_law_137 ?_
  refine va_sld hx hb hX hbl hbA hS i2 dL_law_138 ?_
  refine go_i (ws' := (lwW cI ax ar av ld lg li tb tg ti ah a1 a2 a3 a (q_X4_shelf_X X (xs (Int32.toNatClampNeg (x + 1))) (xs (Int32.toNatClampNeg (x + 2)))) R L G I L2 G2 I2 o1 o2 o3 Y ru ic wm ga fe dr mn pr hg al sd on ot we tr)) C (rn_V (As := [.int (xs (Int32.toNatClampNeg (x + 1))), .int (xs (Int32.toNatClampNeg (x + 2)))]) (rest := []) C (c_X4_shelf l D cI ax ar ld tb ah X (xs (Int32.toNatClampNeg (x + 1))) (xs (Int32.toNatClampNeg (x + 2))) H.size) ck_X4_shelf wd_1_152 wd_1_153 wd_1_151 ⟨Nat.le_of_ble_eq_true rfl, Nat.le_of_ble_eq_true rfl⟩ ⟨by decide, by decide⟩ (ci := 4) (q0 := 0) rfl rfl hP hD hS [0] rfl rfl hl rfl (Nat.le_of_ble_eq_true rfl) dL_law_139) hP hD hS [0] rfl rfl rfl (fun H locs hP hD hS => ?_)
  refine lv_aload_n hx hb dL_law_142 rfl (lv_at hl 2 rfl) ?_
  refine lv_aload_n hx hb dL_law_143 rfl (lv_at hl 0 rfl) ?_
  refine lv_iload_n hx hb dL_law_144 rfl (lv_at hl 3 rfl) ?_
  refine lv_iconst (v := 1) hx hb dL_law_145 (by decide) ?_
  refine lv_iadd hx hb dL_law_146 ?_
  refine va_sld hx hb hX hbl hbA hS i1 dL_law_147 ?_
  refine lv_aload_n hx hb dL_law_148 rfl (lv_at hl 0 rfl) ?_
  refine lv_iload_n hx hb dL_law_149 rfl (lv_at hl 3 rfl) ?_
  refine lv_iconst (v := 2) hx hb dL_law_150 (by decide) ?_
  refine lv_iadd hx hb dL_law_151 ?_
  refine va_sld hx hb hX hbl hbA hS i2 dL_law_152 ?_
  refine go_i (ws' := (lwW cI ax ar av ld lg li tb tg ti ah a1 a2 a3 a (q_X4_shelf_X X (xs (Int32.toNatClampNeg (x + 1))) (xs (Int32.toNatClampNeg (x + 2)))) R L G I L2 G2 I2 o1 o2 o3 (q_X5_shelf_Y Y (xs (Int32.toNatClampNeg (x + 1))) (xs (Int32.toNatClampNeg (x + 2)))) ru ic wm ga fe dr mn pr hg al sd on ot we tr)) C (rn_V (As := [.int (xs (Int32.toNatClampNeg (x + 1))), .int (xs (Int32.toNatClampNeg (x + 2)))]) (rest := [.int (r_X4_shelf X (xs (Int32.toNatClampNeg (x + 1))) (xs (Int32.toNatClampNeg (x + 2))))]) C (c_X5_shelf l D cI a Y (xs (Int32.toNatClampNeg (x + 1))) (xs (Int32.toNatClampNeg (x + 2))) H.size) ck_X5_shelf wd_2_211 wd_2_212 wd_2_210 ⟨Nat.le_of_ble_eq_true rfl, Nat.le_of_ble_eq_true rfl⟩ ⟨by decide, by decide⟩ (ci := 5) (q0 := 13) rfl rfl hP hD hS [13] rfl rfl hl rfl (Nat.le_of_ble_eq_true rfl) dL_law_153) hP hD hS [13] rfl rfl rfl (fun H locs hP hD hS => ?_)
  have ho := op_shelf (rw_ := (xs (Int32.toNatClampNeg (x + 1)))) (cl := (xs (Int32.toNatClampNeg (x + 2)))) hrel
  refine lv_icmp_eq (tgt := 658) hx hb dL_law_156 (by decide) (fun c1 => ?_) (fun c1 => ?_)
  · exact kk (q_X4_shelf_X X (xs (Int32.toNatClampNeg (x + 1))) (xs (Int32.toNatClampNeg (x + 2)))) R L G I L2 G2 I2 o1 o2 o3 (q_X5_shelf_Y Y (xs (Int32.toNatClampNeg (x + 1))) (xs (Int32.toNatClampNeg (x + 2)))) ru ic wm ga fe dr mn pr hg al sd on ot we tr H locs ho.2 hP hD hS
  · exact absurd ho.1 c1
set_option maxHeartbeats 4000000 in
set_option maxRecDepth 100000 in
theorem lk_rule {p : Program} {l : Launch} {e : Env} {s : State} {m : MethodId} {below : List Frame} {meth : Method} {c : Code} {D : va_G} {cI : ClassId} {A : Nat → Prop} {b N : Nat} {xs : Nat → Int32} {ax ar av ld lg li tb tg ti ah a1 a2 a3 : Nat} {a : Nat → Nat} {X R L G I L2 G2 I2 o1 o2 o3 Y ru ic wm ga fe dr mn pr hg al sd on ot we tr : Nat → Int32} {H : Heap} {locs : List Loc} {ls : Array Slot} {x : Int32} {Q : State → Prop} (C : Ctx p s m #[Value.ref b] c code 4 RL D cI A) (hX : va_X b N xs s s.heap) (hbl : b < s.heap.size) (hbA : ¬ A b) (i1 : vp_in (x + 1) N) (i2 : vp_in (x + 2) N) (i3 : vp_in (x + 3) N) (hrel : REL X R L G I L2 G2 I2 o1 o2 o3 Y ru ic wm ga fe dr mn pr hg al sd on ot we tr) (hP : va_P D vwCl (lwW cI ax ar av ld lg li tb tg ti ah a1 a2 a3 a X R L G I L2 G2 I2 o1 o2 o3 Y ru ic wm ga fe dr mn pr hg al sd on ot we tr) H) (hD : va_D A (lwW cI ax ar av ld lg li tb tg ti ah a1 a2 a3 a X R L G I L2 G2 I2 o1 o2 o3 Y ru ic wm ga fe dr mn pr hg al sd on ot we tr)) (hS : va_S A s.heap H locs) (hl : lv_has ls 4 [(0, .ref b), (1, .ref ax), (2, .ref (a 0)), (3, .int x)]) (kk : ∀ (X R L G I L2 G2 I2 o1 o2 o3 Y ru ic wm ga fe dr mn pr hg al sd on ot we tr : Nat → Int32) (H : Heap) (locs : List Loc), REL X R L G I L2 G2 I2 o1 o2 o3 Y ru ic wm ga fe dr mn pr hg al sd on ot we tr → va_P D vwCl (lwW cI ax ar av ld lg li tb tg ti ah a1 a2 a3 a X R L G I L2 G2 I2 o1 o2 o3 Y ru ic wm ga fe dr mn pr hg al sd on ot we tr) H → va_D A (lwW cI ax ar av ld lg li tb tg ti ah a1 a2 a3 a X R L G I L2 G2 I2 o1 o2 o3 Y ru ic wm ga fe dr mn pr hg al sd on ot we tr) → va_S A s.heap H locs → W p l e room_1 s m #[Value.ref b] below meth c H locs 29 12364 Q (F0 m 658 ls [])) : W p l e room_1 s m #[Value.ref b] below meth c H locs 29 12364 Q (F0 m 161 ls []) := by
  have hx := C.1.1
  have hb := C.1.2.1
  have hY : SH Y := hrel.1.2.2
  have hRB : RB ru := hrel.1.2.1
  have hv := sh_hv hY
  have h1 := sh_h1 hY
  have hc := sh_hc hY
  have hwm := hrel.2.2.1.1
  have hps := hrel.2.2.1.2
  have hm2 : Int32.toInt (mn 0) ≤ 2000 := by rw [hrel.2.2.2.1.1]; exact hrel.2.2.2.1.2.2
  have hmo : Int32.toInt (L 2) < 2147483647 := by have := hrel.2.2.2.1.2.2; omega
  have hld : ¬ Y 3 = 0 → MREL Y 0 ru ic wm ga fe dr mn pr hg al sd := fun z => ⟨_, _, _, hrel.2.2.2.2.1 z⟩
  refine lv_aload_n hx hb dL_law_161 rfl (lv_at hl 1 rfl) ?_
  refine lv_aload_n hx hb dL_law_162 rfl (lv_at hl 0 rfl) ?_
  refine lv_iload_n hx hb dL_law_163 rfl (lv_at hl 3 rfl) ?_
  refine lv_iconst (v := 1) hx hb dL_law_164 (by decide) ?_
  refine lv_iadd hx hb dL_law_165 ?_
  refine va_sld hx hb hX hbl hbA hS i1 dL_law_166 ?_
  refine lv_aload_n hx hb dL_law_167 rfl (lv_at hl 0 rfl) ?_
  refine lv_iload_n hx hb dL_law_168 rfl (lv_at hl 3 rfl) ?_
  refine lv_iconst (v := 2) hx hb dL_law_169 (by decide) ?_
  refine lv_iadd hx hb dL_law_170 ?_
  refine va_sld hx hb hX hbl hbA hS i2 dL_law_171 ?_
  refine go_i (ws' := (lwW cI ax ar av ld lg li tb tg ti ah a1 a2 a3 a X (q_X4_rule_R X R (xs (Int32.toNatClampNeg (x + 1))) (xs (Int32.toNatClampNeg (x + 2)))) L G I L2 G2 I2 o1 o2 o3 Y ru ic wm ga fe dr mn pr hg al sd on ot we tr)) C (rn_V (As := [.int (xs (Int32.toNatClampNeg (x + 1))), .int (xs (Int32.toNatClampNeg (x + 2)))]) (rest := []) C (c_X4_rule l D cI ax ar ld tb ah X av R (xs (Int32.toNatClampNeg (x + 1))) (xs (Int32.toNatClampNeg (x + 2))) H.size) ck_X4_rule wd_1_163 wd_1_164 wd_1_162 ⟨Nat.le_of_ble_eq_true rfl, Nat.le_of_ble_eq_true rfl⟩ ⟨by decide, by decide⟩ (ci := 4) (q0 := 0) rfl rfl hP hD hS [0, 1, 2] rfl rfl hl rfl (Nat.le_of_ble_eq_true rfl) dL_law_172) hP hD hS [0, 1, 2] rfl rfl rfl (fun H locs hP hD hS => ?_)
  refine lv_aload_n hx hb dL_law_175 rfl (lv_at hl 2 rfl) ?_
  refine lv_aload_n hx hb dL_law_176 rfl (lv_at hl 0 rfl) ?_
  refine lv_iload_n hx hb dL_law_177 rfl (lv_at hl 3 rfl) ?_
  refine lv_iconst (v := 1) hx hb dL_law_178 (by decide) ?_
  refine lv_iadd hx hb dL_law_179 ?_
  refine va_sld hx hb hX hbl hbA hS i1 dL_law_180 ?_
  refine lv_aload_n hx hb dL_law_181 rfl (lv_at hl 0 rfl) ?_
  refine lv_iload_n hx hb dL_law_182 rfl (lv_at hl 3 rfl) ?_
  refine lv_iconst (v := 2) hx hb dL_law_183 (by decide) ?_
  refine lv_iadd hx hb dL_law_184 ?_
  refine va_sld hx hb hX hbl hbA hS i2 dL_law_185 ?_
  refine go_i (ws' := (lwW cI ax ar av ld lg li tb tg ti ah a1 a2 a3 a X (q_X4_rule_R X R (xs (Int32.toNatClampNeg (x + 1))) (xs (Int32.toNatClampNeg (x + 2)))) L G I L2 G2 I2 o1 o2 o3 Y (q_X5_rule_ru Y ru (xs (Int32.toNatClampNeg (x + 1))) (xs (Int32.toNatClampNeg (x + 2)))) ic wm ga fe dr mn pr hg al sd on ot we tr)) C (rn_V (As := [.int (xs (Int32.toNatClampNeg (x + 1))), .int (xs (Int32.toNatClampNeg (x + 2)))]) (rest := [.int (r_X4_rule X R (xs (Int32.toNatClampNeg (x + 1))) (xs (Int32.toNatClampNeg (x + 2))))]) C (c_X5_rule l D cI a Y ru (xs (Int32.toNatClampNeg (x + 1))) (xs (Int32.toNatClampNeg (x + 2))) H.size) ck_X5_rule wd_2_224 wd_2_225 wd_2_223 ⟨Nat.le_of_ble_eq_true rfl, Nat.le_of_ble_eq_true rfl⟩ ⟨by decide, by decide⟩ (ci := 5) (q0 := 13) rfl rfl hP hD hS [13, 14] rfl rfl hl rfl (Nat.le_of_ble_eq_true rfl) dL_law_186) hP hD hS [13, 14] rfl rfl rfl (fun H locs hP hD hS => ?_)
  have ho := op_rule (k := (xs (Int32.toNatClampNeg (x + 1)))) (v := (xs (Int32.toNatClampNeg (x + 2)))) hrel
  refine lv_icmp_eq (tgt := 658) hx hb dL_law_189 (by decide) (fun c1 => ?_) (fun c1 => ?_)
  · exact kk X (q_X4_rule_R X R (xs (Int32.toNatClampNeg (x + 1))) (xs (Int32.toNatClampNeg (x + 2)))) L G I L2 G2 I2 o1 o2 o3 Y (q_X5_rule_ru Y ru (xs (Int32.toNatClampNeg (x + 1))) (xs (Int32.toNatClampNeg (x + 2)))) ic wm ga fe dr mn pr hg al sd on ot we tr H locs ho.2 hP hD hS
  · exact absurd ho.1 c1
set_option maxHeartbeats 4000000 in
set_option maxRecDepth 100000 in
theorem lk_vapour {p : Program} {l : Launch} {e : Env} {s : State} {m : MethodId} {below : List Frame} {meth : Method} {c : Code} {D : va_G} {cI : ClassId} {A : Nat → Prop} {b N : Nat} {xs : Nat → Int32} {ax ar av ld lg li tb tg ti ah a1 a2 a3 : Nat} {a : Nat → Nat} {X R L G I L2 G2 I2 o1 o2 o3 Y ru ic wm ga fe dr mn pr hg al sd on ot we tr : Nat → Int32} {H : Heap} {locs : List Loc} {ls : Array Slot} {x : Int32} {Q : State → Prop} (C : Ctx p s m #[Value.ref b] c code 4 RL D cI A) (hX : va_X b N xs s s.heap) (hbl : b < s.heap.size) (hbA : ¬ A b) (i1 : vp_in (x + 1) N) (i2 : vp_in (x + 2) N) (i3 : vp_in (x + 3) N) (hrel : REL X R L G I L2 G2 I2 o1 o2 o3 Y ru ic wm ga fe dr mn pr hg al sd on ot we tr) (hP : va_P D vwCl (lwW cI ax ar av ld lg li tb tg ti ah a1 a2 a3 a X R L G I L2 G2 I2 o1 o2 o3 Y ru ic wm ga fe dr mn pr hg al sd on ot we tr) H) (hD : va_D A (lwW cI ax ar av ld lg li tb tg ti ah a1 a2 a3 a X R L G I L2 G2 I2 o1 o2 o3 Y ru ic wm ga fe dr mn pr hg al sd on ot we tr)) (hS : va_S A s.heap H locs) (hl : lv_has ls 4 [(0, .ref b), (1, .ref ax), (2, .ref (a 0)), (3, .int x)]) (kk : ∀ (X R L G I L2 G2 I2 o1 o2 o3 Y ru ic wm ga fe dr mn pr hg al sd on ot we tr : Nat → Int32) (H : Heap) (locs : List Loc), REL X R L G I L2 G2 I2 o1 o2 o3 Y ru ic wm ga fe dr mn pr hg al sd on ot we tr → va_P D vwCl (lwW cI ax ar av ld lg li tb tg ti ah a1 a2 a3 a X R L G I L2 G2 I2 o1 o2 o3 Y ru ic wm ga fe dr mn pr hg al sd on ot we tr) H → va_D A (lwW cI ax ar av ld lg li tb tg ti ah a1 a2 a3 a X R L G I L2 G2 I2 o1 o2 o3 Y ru ic wm ga fe dr mn pr hg al sd on ot we tr) → va_S A s.heap H locs → W p l e room_1 s m #[Value.ref b] below meth c H locs 29 12364 Q (F0 m 658 ls [])) : W p l e room_1 s m #[Value.ref b] below meth c H locs 29 12364 Q (F0 m 194 ls []) := by
  have hx := C.1.1
  have hb := C.1.2.1
  have hY : SH Y := hrel.1.2.2
  have hRB : RB ru := hrel.1.2.1
  have hv := sh_hv hY
  have h1 := sh_h1 hY
  have hc := sh_hc hY
  have hwm := hrel.2.2.1.1
  have hps := hrel.2.2.1.2
  have hm2 : Int32.toInt (mn 0) ≤ 2000 := by rw [hrel.2.2.2.1.1]; exact hrel.2.2.2.1.2.2
  have hmo : Int32.toInt (L 2) < 2147483647 := by have := hrel.2.2.2.1.2.2; omega
  have hld : ¬ Y 3 = 0 → MREL Y 0 ru ic wm ga fe dr mn pr hg al sd := fun z => ⟨_, _, _, hrel.2.2.2.2.1 z⟩
  refine lv_aload_n hx hb dL_law_194 rfl (lv_at hl 1 rfl) ?_
  refine lv_aload_n hx hb dL_law_195 rfl (lv_at hl 0 rfl) ?_
  refine lv_iload_n hx hb dL_law_196 rfl (lv_at hl 3 rfl) ?_
  refine lv_iconst (v := 1) hx hb dL_law_197 (by decide) ?_
  refine lv_iadd hx hb dL_law_198 ?_
  refine va_sld hx hb hX hbl hbA hS i1 dL_law_199 ?_
  refine go_i (ws' := (lwW cI ax ar av ld lg li tb tg ti ah a1 a2 a3 a X R L G I L2 G2 I2 o1 o2 o3 Y ru ic wm ga fe dr mn pr hg al sd on ot we tr)) C (rn_V (As := [.int (xs (Int32.toNatClampNeg (x + 1)))]) (rest := []) C (c_X4_vapour l D cI ax (xs (Int32.toNatClampNeg (x + 1))) H.size) ck_X4_vapour wd_1_188 wd_1_189 wd_1_187 ⟨Nat.le_of_ble_eq_true rfl, Nat.le_of_ble_eq_true rfl⟩ ⟨by decide, by decide⟩ (ci := 4) (q0 := 0) rfl rfl hP hD hS [] rfl rfl hl rfl (Nat.le_of_ble_eq_true rfl) dL_law_200) hP hD hS [] rfl rfl rfl (fun H locs hP hD hS => ?_)
  refine lv_aload_n hx hb dL_law_203 rfl (lv_at hl 2 rfl) ?_
  refine lv_aload_n hx hb dL_law_204 rfl (lv_at hl 0 rfl) ?_
  refine lv_iload_n hx hb dL_law_205 rfl (lv_at hl 3 rfl) ?_
  refine lv_iconst (v := 1) hx hb dL_law_206 (by decide) ?_
  refine lv_iadd hx hb dL_law_207 ?_
  refine va_sld hx hb hX hbl hbA hS i1 dL_law_208 ?_
  refine go_i (ws' := (lwW cI ax ar av ld lg li tb tg ti ah a1 a2 a3 a X R L G I L2 G2 I2 o1 o2 o3 Y ru ic wm ga fe dr mn pr hg al sd on ot we tr)) C (rn_V (As := [.int (xs (Int32.toNatClampNeg (x + 1)))]) (rest := [.int (r_X4_vapour (xs (Int32.toNatClampNeg (x + 1))))]) C (c_X5_vapour l D cI a (xs (Int32.toNatClampNeg (x + 1))) H.size) ck_X5_vapour wd_2_235 wd_2_236 wd_2_234 ⟨Nat.le_of_ble_eq_true rfl, Nat.le_of_ble_eq_true rfl⟩ ⟨by decide, by decide⟩ (ci := 5) (q0 := 13) rfl rfl hP hD hS [] rfl rfl hl rfl (Nat.le_of_ble_eq_true rfl) dL_law_209) hP hD hS [] rfl rfl rfl (fun H locs hP hD hS => ?_)
  have ho := op_vapour (t := (xs (Int32.toNatClampNeg (x + 1))))
  refine lv_icmp_eq (tgt := 658) hx hb dL_law_212 (by decide) (fun c1 => ?_) (fun c1 => ?_)
  · exact kk X R L G I L2 G2 I2 o1 o2 o3 Y ru ic wm ga fe dr mn pr hg al sd on ot we tr H locs hrel hP hD hS
  · exact absurd ho c1
set_option maxHeartbeats 4000000 in
set_option maxRecDepth 100000 in
theorem lk_steam {p : Program} {l : Launch} {e : Env} {s : State} {m : MethodId} {below : List Frame} {meth : Method} {c : Code} {D : va_G} {cI : ClassId} {A : Nat → Prop} {b N : Nat} {xs : Nat → Int32} {ax ar av ld lg li tb tg ti ah a1 a2 a3 : Nat} {a : Nat → Nat} {X R L G I L2 G2 I2 o1 o2 o3 Y ru ic wm ga fe dr mn pr hg al sd on ot we tr : Nat → Int32} {H : Heap} {locs : List Loc} {ls : Array Slot} {x : Int32} {Q : State → Prop} (C : Ctx p s m #[Value.ref b] c code 4 RL D cI A) (hX : va_X b N xs s s.heap) (hbl : b < s.heap.size) (hbA : ¬ A b) (i1 : vp_in (x + 1) N) (i2 : vp_in (x + 2) N) (i3 : vp_in (x + 3) N) (hrel : REL X R L G I L2 G2 I2 o1 o2 o3 Y ru ic wm ga fe dr mn pr hg al sd on ot we tr) (hP : va_P D vwCl (lwW cI ax ar av ld lg li tb tg ti ah a1 a2 a3 a X R L G I L2 G2 I2 o1 o2 o3 Y ru ic wm ga fe dr mn pr hg al sd on ot we tr) H) (hD : va_D A (lwW cI ax ar av ld lg li tb tg ti ah a1 a2 a3 a X R L G I L2 G2 I2 o1 o2 o3 Y ru ic wm ga fe dr mn pr hg al sd on ot we tr)) (hS : va_S A s.heap H locs) (hl : lv_has ls 4 [(0, .ref b), (1, .ref ax), (2, .ref (a 0)), (3, .int x)]) (kk : ∀ (X R L G I L2 G2 I2 o1 o2 o3 Y ru ic wm ga fe dr mn pr hg al sd on ot we tr : Nat → Int32) (H : Heap) (locs : List Loc), REL X R L G I L2 G2 I2 o1 o2 o3 Y ru ic wm ga fe dr mn pr hg al sd on ot we tr → va_P D vwCl (lwW cI ax ar av ld lg li tb tg ti ah a1 a2 a3 a X R L G I L2 G2 I2 o1 o2 o3 Y ru ic wm ga fe dr mn pr hg al sd on ot we tr) H → va_D A (lwW cI ax ar av ld lg li tb tg ti ah a1 a2 a3 a X R L G I L2 G2 I2 o1 o2 o3 Y ru ic wm ga fe dr mn pr hg al sd on ot we tr) → va_S A s.heap H locs → W p l e room_1 s m #[Value.ref b] below meth c H locs 29 12364 Q (F0 m 658 ls [])) : W p l e room_1 s m #[Value.ref b] below meth c H locs 29 12364 Q (F0 m 217 ls []) := by
  have hx := C.1.1
  have hb := C.1.2.1
  have hY : SH Y := hrel.1.2.2
  have hRB : RB ru := hrel.1.2.1
  have hv := sh_hv hY
  have h1 := sh_h1 hY
  have hc := sh_hc hY
  have hwm := hrel.2.2.1.1
  have hps := hrel.2.2.1.2
  have hm2 : Int32.toInt (mn 0) ≤ 2000 := by rw [hrel.2.2.2.1.1]; exact hrel.2.2.2.1.2.2
  have hmo : Int32.toInt (L 2) < 2147483647 := by have := hrel.2.2.2.1.2.2; omega
  have hld : ¬ Y 3 = 0 → MREL Y 0 ru ic wm ga fe dr mn pr hg al sd := fun z => ⟨_, _, _, hrel.2.2.2.2.1 z⟩
  refine lv_aload_n hx hb dL_law_217 rfl (lv_at hl 1 rfl) ?_
  refine lv_aload_n hx hb dL_law_218 rfl (lv_at hl 0 rfl) ?_
  refine lv_iload_n hx hb dL_law_219 rfl (lv_at hl 3 rfl) ?_
  refine lv_iconst (v := 1) hx hb dL_law_220 (by decide) ?_
  refine lv_iadd hx hb dL_law_221 ?_
  refine va_sld hx hb hX hbl hbA hS i1 dL_law_222 ?_
  refine lv_aload_n hx hb dL_law_223 rfl (lv_at hl 0 rfl) ?_
  refine lv_iload_n hx hb dL_law_224 rfl (lv_at hl 3 rfl) ?_
  refine lv_iconst (v := 2) hx hb dL_law_225 (by decide) ?_
  refine lv_iadd hx hb dL_law_226 ?_
  refine va_sld hx hb hX hbl hbA hS i2 dL_law_227 ?_
  refine lv_aload_n hx hb dL_law_228 rfl (lv_at hl 0 rfl) ?_
  refine lv_iload_n hx hb dL_law_229 rfl (lv_at hl 3 rfl) ?_
  refine lv_iconst (v := 3) hx hb dL_law_230 (by decide) ?_
  refine lv_iadd hx hb dL_law_231 ?_
  refine va_sld hx hb hX hbl hbA hS i3 dL_law_232 ?_
  refine go_i (ws' := (lwW cI ax ar av ld lg li tb tg ti ah a1 a2 a3 a X R L G I L2 G2 I2 o1 o2 o3 Y ru ic wm ga fe dr mn pr hg al sd on ot we tr)) C (rn_V (As := [.int (xs (Int32.toNatClampNeg (x + 1))), .int (xs (Int32.toNatClampNeg (x + 2))), .int (xs (Int32.toNatClampNeg (x + 3)))]) (rest := []) C (c_X4_steam l D cI ax ar ld tb ah X av R (xs (Int32.toNatClampNeg (x + 1))) (xs (Int32.toNatClampNeg (x + 2))) (xs (Int32.toNatClampNeg (x + 3))) H.size) ck_X4_steam wd_1_195 wd_1_196 wd_1_194 ⟨Nat.le_of_ble_eq_true rfl, Nat.le_of_ble_eq_true rfl⟩ ⟨by decide, by decide⟩ (ci := 4) (q0 := 0) rfl rfl hP hD hS [0, 1, 2] rfl rfl hl rfl (Nat.le_of_ble_eq_true rfl) dL_law_233) hP hD hS [0, 1, 2] rfl rfl rfl (fun H locs hP hD hS => ?_)
  refine lv_aload_n hx hb dL_law_236 rfl (lv_at hl 2 rfl) ?_
  refine lv_aload_n hx hb dL_law_237 rfl (lv_at hl 0 rfl) ?_
  refine lv_iload_n hx hb dL_law_238 rfl (lv_at hl 3 rfl) ?_
  refine lv_iconst (v := 1) hx hb dL_law_239 (by decide) ?_
  refine lv_iadd hx hb dL_law_240 ?_
  refine va_sld hx hb hX hbl hbA hS i1 dL_law_241 ?_
  refine lv_aload_n hx hb dL_law_242 rfl (lv_at hl 0 rfl) ?_
  refine lv_iload_n hx hb dL_law_243 rfl (lv_at hl 3 rfl) ?_
  refine lv_iconst (v := 2) hx hb dL_law_244 (by decide) ?_
  refine lv_iadd hx hb dL_law_245 ?_
  refine va_sld hx hb hX hbl hbA hS i2 dL_law_246 ?_
  refine lv_aload_n hx hb dL_law_247 rfl (lv_at hl 0 rfl) ?_
  refine lv_iload_n hx hb dL_law_248 rfl (lv_at hl 3 rfl) ?_
  refine lv_iconst (v := 3) hx hb dL_law_249 (by decide) ?_
  refine lv_iadd hx hb dL_law_250 ?_
  refine va_sld hx hb hX hbl hbA hS i3 dL_law_251 ?_
  refine go_i (ws' := (lwW cI ax ar av ld lg li tb tg ti ah a1 a2 a3 a X R L G I L2 G2 I2 o1 o2 o3 Y ru ic wm ga fe dr mn pr hg al sd on ot we tr)) C (rn_V (As := [.int (xs (Int32.toNatClampNeg (x + 1))), .int (xs (Int32.toNatClampNeg (x + 2))), .int (xs (Int32.toNatClampNeg (x + 3)))]) (rest := [.int (r_X4_steam R (xs (Int32.toNatClampNeg (x + 1))) (xs (Int32.toNatClampNeg (x + 2))) (xs (Int32.toNatClampNeg (x + 3))))]) C (c_X5_steam l D cI a Y ru (xs (Int32.toNatClampNeg (x + 1))) (xs (Int32.toNatClampNeg (x + 2))) (xs (Int32.toNatClampNeg (x + 3))) hRB H.size) ck_X5_steam wd_3_6 wd_3_7 wd_3_5 ⟨Nat.le_of_ble_eq_true rfl, Nat.le_of_ble_eq_true rfl⟩ ⟨by decide, by decide⟩ (ci := 5) (q0 := 13) rfl rfl hP hD hS [13, 14] rfl rfl hl rfl (Nat.le_of_ble_eq_true rfl) dL_law_252) hP hD hS [13, 14] rfl rfl rfl (fun H locs hP hD hS => ?_)
  have ho := op_steam (t := (xs (Int32.toNatClampNeg (x + 1)))) (dd := (xs (Int32.toNatClampNeg (x + 2)))) (p0 := (xs (Int32.toNatClampNeg (x + 3)))) hrel
  refine lv_icmp_eq (tgt := 658) hx hb dL_law_255 (by decide) (fun c1 => ?_) (fun c1 => ?_)
  · exact kk X R L G I L2 G2 I2 o1 o2 o3 Y ru ic wm ga fe dr mn pr hg al sd on ot we tr H locs hrel hP hD hS
  · exact absurd ho c1
set_option maxHeartbeats 4000000 in
set_option maxRecDepth 100000 in
theorem lk_rim {p : Program} {l : Launch} {e : Env} {s : State} {m : MethodId} {below : List Frame} {meth : Method} {c : Code} {D : va_G} {cI : ClassId} {A : Nat → Prop} {b N : Nat} {xs : Nat → Int32} {ax ar av ld lg li tb tg ti ah a1 a2 a3 : Nat} {a : Nat → Nat} {X R L G I L2 G2 I2 o1 o2 o3 Y ru ic wm ga fe dr mn pr hg al sd on ot we tr : Nat → Int32} {H : Heap} {locs : List Loc} {ls : Array Slot} {x : Int32} {Q : State → Prop} (C : Ctx p s m #[Value.ref b] c code 4 RL D cI A) (hX : va_X b N xs s s.heap) (hbl : b < s.heap.size) (hbA : ¬ A b) (i1 : vp_in (x + 1) N) (i2 : vp_in (x + 2) N) (i3 : vp_in (x + 3) N) (hrel : REL X R L G I L2 G2 I2 o1 o2 o3 Y ru ic wm ga fe dr mn pr hg al sd on ot we tr) (hP : va_P D vwCl (lwW cI ax ar av ld lg li tb tg ti ah a1 a2 a3 a X R L G I L2 G2 I2 o1 o2 o3 Y ru ic wm ga fe dr mn pr hg al sd on ot we tr) H) (hD : va_D A (lwW cI ax ar av ld lg li tb tg ti ah a1 a2 a3 a X R L G I L2 G2 I2 o1 o2 o3 Y ru ic wm ga fe dr mn pr hg al sd on ot we tr)) (hS : va_S A s.heap H locs) (hl : lv_has ls 4 [(0, .ref b), (1, .ref ax), (2, .ref (a 0)), (3, .int x)]) (kk : ∀ (X R L G I L2 G2 I2 o1 o2 o3 Y ru ic wm ga fe dr mn pr hg al sd on ot we tr : Nat → Int32) (H : Heap) (locs : List Loc), REL X R L G I L2 G2 I2 o1 o2 o3 Y ru ic wm ga fe dr mn pr hg al sd on ot we tr → va_P D vwCl (lwW cI ax ar av ld lg li tb tg ti ah a1 a2 a3 a X R L G I L2 G2 I2 o1 o2 o3 Y ru ic wm ga fe dr mn pr hg al sd on ot we tr) H → va_D A (lwW cI ax ar av ld lg li tb tg ti ah a1 a2 a3 a X R L G I L2 G2 I2 o1 o2 o3 Y ru ic wm ga fe dr mn pr hg al sd on ot we tr) → va_S A s.heap H locs → W p l e room_1 s m #[Value.ref b] below meth c H locs 29 12364 Q (F0 m 658 ls [])) : W p l e room_1 s m #[Value.ref b] below meth c H locs 29 12364 Q (F0 m 260 ls []) := by
  have hx := C.1.1
  have hb := C.1.2.1
  have hY : SH Y := hrel.1.2.2
  have hRB : RB ru := hrel.1.2.1
  have hv := sh_hv hY
  have h1 := sh_h1 hY
  have hc := sh_hc hY
  have hwm := hrel.2.2.1.1
  have hps := hrel.2.2.1.2
  have hm2 : Int32.toInt (mn 0) ≤ 2000 := by rw [hrel.2.2.2.1.1]; exact hrel.2.2.2.1.2.2
  have hmo : Int32.toInt (L 2) < 2147483647 := by have := hrel.2.2.2.1.2.2; omega
  have hld : ¬ Y 3 = 0 → MREL Y 0 ru ic wm ga fe dr mn pr hg al sd := fun z => ⟨_, _, _, hrel.2.2.2.2.1 z⟩
  refine lv_aload_n hx hb dL_law_260 rfl (lv_at hl 1 rfl) ?_
  refine lv_aload_n hx hb dL_law_261 rfl (lv_at hl 0 rfl) ?_
  refine lv_iload_n hx hb dL_law_262 rfl (lv_at hl 3 rfl) ?_
  refine lv_iconst (v := 1) hx hb dL_law_263 (by decide) ?_
  refine lv_iadd hx hb dL_law_264 ?_
  refine va_sld hx hb hX hbl hbA hS i1 dL_law_265 ?_
  refine go_i (ws' := (lwW cI ax ar av ld lg li tb tg ti ah a1 a2 a3 a X R L G I L2 G2 I2 o1 o2 o3 Y ru ic wm ga fe dr mn pr hg al sd on ot we tr)) C (rn_V (As := [.int (xs (Int32.toNatClampNeg (x + 1)))]) (rest := []) C (c_X4_rim l D cI ax ar ld tb ah X (xs (Int32.toNatClampNeg (x + 1))) H.size) ck_X4_rim wd_1_212 wd_1_213 wd_1_211 ⟨Nat.le_of_ble_eq_true rfl, Nat.le_of_ble_eq_true rfl⟩ ⟨by decide, by decide⟩ (ci := 4) (q0 := 0) rfl rfl hP hD hS [0] rfl rfl hl rfl (Nat.le_of_ble_eq_true rfl) dL_law_266) hP hD hS [0] rfl rfl rfl (fun H locs hP hD hS => ?_)
  refine lv_aload_n hx hb dL_law_269 rfl (lv_at hl 2 rfl) ?_
  refine lv_aload_n hx hb dL_law_270 rfl (lv_at hl 0 rfl) ?_
  refine lv_iload_n hx hb dL_law_271 rfl (lv_at hl 3 rfl) ?_
  refine lv_iconst (v := 1) hx hb dL_law_272 (by decide) ?_
  refine lv_iadd hx hb dL_law_273 ?_
  refine va_sld hx hb hX hbl hbA hS i1 dL_law_274 ?_
  refine go_i (ws' := (lwW cI ax ar av ld lg li tb tg ti ah a1 a2 a3 a X R L G I L2 G2 I2 o1 o2 o3 Y ru ic wm ga fe dr mn pr hg al sd on ot we tr)) C (rn_V (As := [.int (xs (Int32.toNatClampNeg (x + 1)))]) (rest := [.int (r_X4_rim X (xs (Int32.toNatClampNeg (x + 1))))]) C (c_X5_rim l D cI a Y (xs (Int32.toNatClampNeg (x + 1))) hc H.size) ck_X5_rim wd_3_16 wd_3_17 wd_3_15 ⟨Nat.le_of_ble_eq_true rfl, Nat.le_of_ble_eq_true rfl⟩ ⟨by decide, by decide⟩ (ci := 5) (q0 := 13) rfl rfl hP hD hS [13] rfl rfl hl rfl (Nat.le_of_ble_eq_true rfl) dL_law_275) hP hD hS [13] rfl rfl rfl (fun H locs hP hD hS => ?_)
  have ho := op_rim (k := (xs (Int32.toNatClampNeg (x + 1)))) hrel
  refine lv_icmp_eq (tgt := 658) hx hb dL_law_278 (by decide) (fun c1 => ?_) (fun c1 => ?_)
  · exact kk X R L G I L2 G2 I2 o1 o2 o3 Y ru ic wm ga fe dr mn pr hg al sd on ot we tr H locs hrel hP hD hS
  · exact absurd ho c1
set_option maxHeartbeats 4000000 in
set_option maxRecDepth 100000 in
theorem lk_warm {p : Program} {l : Launch} {e : Env} {s : State} {m : MethodId} {below : List Frame} {meth : Method} {c : Code} {D : va_G} {cI : ClassId} {A : Nat → Prop} {b N : Nat} {xs : Nat → Int32} {ax ar av ld lg li tb tg ti ah a1 a2 a3 : Nat} {a : Nat → Nat} {X R L G I L2 G2 I2 o1 o2 o3 Y ru ic wm ga fe dr mn pr hg al sd on ot we tr : Nat → Int32} {H : Heap} {locs : List Loc} {ls : Array Slot} {x : Int32} {Q : State → Prop} (C : Ctx p s m #[Value.ref b] c code 4 RL D cI A) (hX : va_X b N xs s s.heap) (hbl : b < s.heap.size) (hbA : ¬ A b) (i1 : vp_in (x + 1) N) (i2 : vp_in (x + 2) N) (i3 : vp_in (x + 3) N) (hrel : REL X R L G I L2 G2 I2 o1 o2 o3 Y ru ic wm ga fe dr mn pr hg al sd on ot we tr) (hP : va_P D vwCl (lwW cI ax ar av ld lg li tb tg ti ah a1 a2 a3 a X R L G I L2 G2 I2 o1 o2 o3 Y ru ic wm ga fe dr mn pr hg al sd on ot we tr) H) (hD : va_D A (lwW cI ax ar av ld lg li tb tg ti ah a1 a2 a3 a X R L G I L2 G2 I2 o1 o2 o3 Y ru ic wm ga fe dr mn pr hg al sd on ot we tr)) (hS : va_S A s.heap H locs) (hl : lv_has ls 4 [(0, .ref b), (1, .ref ax), (2, .ref (a 0)), (3, .int x)]) (kk : ∀ (X R L G I L2 G2 I2 o1 o2 o3 Y ru ic wm ga fe dr mn pr hg al sd on ot we tr : Nat → Int32) (H : Heap) (locs : List Loc), REL X R L G I L2 G2 I2 o1 o2 o3 Y ru ic wm ga fe dr mn pr hg al sd on ot we tr → va_P D vwCl (lwW cI ax ar av ld lg li tb tg ti ah a1 a2 a3 a X R L G I L2 G2 I2 o1 o2 o3 Y ru ic wm ga fe dr mn pr hg al sd on ot we tr) H → va_D A (lwW cI ax ar av ld lg li tb tg ti ah a1 a2 a3 a X R L G I L2 G2 I2 o1 o2 o3 Y ru ic wm ga fe dr mn pr hg al sd on ot we tr) → va_S A s.heap H locs → W p l e room_1 s m #[Value.ref b] below meth c H locs 29 12364 Q (F0 m 658 ls [])) : W p l e room_1 s m #[Value.ref b] below meth c H locs 29 12364 Q (F0 m 296 ls []) := by
  have hx := C.1.1
  have hb := C.1.2.1
  have hY : SH Y := hrel.1.2.2
  have hRB : RB ru := hrel.1.2.1
  have hv := sh_hv hY
  have h1 := sh_h1 hY
  have hc := sh_hc hY
  have hwm := hrel.2.2.1.1
  have hps := hrel.2.2.1.2
  have hm2 : Int32.toInt (mn 0) ≤ 2000 := by rw [hrel.2.2.2.1.1]; exact hrel.2.2.2.1.2.2
  have hmo : Int32.toInt (L 2) < 2147483647 := by have := hrel.2.2.2.1.2.2; omega
  have hld : ¬ Y 3 = 0 → MREL Y 0 ru ic wm ga fe dr mn pr hg al sd := fun z => ⟨_, _, _, hrel.2.2.2.2.1 z⟩
  refine lv_aload_n hx hb dL_law_296 rfl (lv_at hl 1 rfl) ?_
  refine lv_aload_n hx hb dL_law_297 rfl (lv_at hl 0 rfl) ?_
  refine lv_iload_n hx hb dL_law_298 rfl (lv_at hl 3 rfl) ?_
  refine lv_iconst (v := 1) hx hb dL_law_299 (by decide) ?_
  refine lv_iadd hx hb dL_law_300 ?_
  refine va_sld hx hb hX hbl hbA hS i1 dL_law_301 ?_
  refine go_i (ws' := (lwW cI ax ar av ld lg li tb tg ti ah a1 a2 a3 a (q_X4_warm_X X (xs (Int32.toNatClampNeg (x + 1)))) R L G I L2 G2 I2 o1 o2 o3 Y ru ic wm ga fe dr mn pr hg al sd on ot we tr)) C (rn_V (As := [.int (xs (Int32.toNatClampNeg (x + 1)))]) (rest := []) C (c_X4_warm l D cI ax ar ld tb ah X (xs (Int32.toNatClampNeg (x + 1))) H.size) ck_X4_warm wd_2_11 wd_2_12 wd_2_10 ⟨Nat.le_of_ble_eq_true rfl, Nat.le_of_ble_eq_true rfl⟩ ⟨by decide, by decide⟩ (ci := 4) (q0 := 0) rfl rfl hP hD hS [0] rfl rfl hl rfl (Nat.le_of_ble_eq_true rfl) dL_law_302) hP hD hS [0] rfl rfl rfl (fun H locs hP hD hS => ?_)
  refine lv_aload_n hx hb dL_law_305 rfl (lv_at hl 2 rfl) ?_
  refine lv_aload_n hx hb dL_law_306 rfl (lv_at hl 0 rfl) ?_
  refine lv_iload_n hx hb dL_law_307 rfl (lv_at hl 3 rfl) ?_
  refine lv_iconst (v := 1) hx hb dL_law_308 (by decide) ?_
  refine lv_iadd hx hb dL_law_309 ?_
  refine va_sld hx hb hX hbl hbA hS i1 dL_law_310 ?_
  refine go_i (ws' := (lwW cI ax ar av ld lg li tb tg ti ah a1 a2 a3 a (q_X4_warm_X X (xs (Int32.toNatClampNeg (x + 1)))) R L G I L2 G2 I2 o1 o2 o3 (q_X5_warm_Y Y (xs (Int32.toNatClampNeg (x + 1)))) ru ic wm ga fe dr mn pr hg al sd on ot we tr)) C (rn_V (As := [.int (xs (Int32.toNatClampNeg (x + 1)))]) (rest := [.int (r_X4_warm X (xs (Int32.toNatClampNeg (x + 1))))]) C (c_X5_warm l D cI a Y (xs (Int32.toNatClampNeg (x + 1))) H.size) ck_X5_warm wd_3_32 wd_3_33 wd_3_31 ⟨Nat.le_of_ble_eq_true rfl, Nat.le_of_ble_eq_true rfl⟩ ⟨by decide, by decide⟩ (ci := 5) (q0 := 13) rfl rfl hP hD hS [13] rfl rfl hl rfl (Nat.le_of_ble_eq_true rfl) dL_law_311) hP hD hS [13] rfl rfl rfl (fun H locs hP hD hS => ?_)
  have ho := op_warm (t := (xs (Int32.toNatClampNeg (x + 1)))) hrel
  refine lv_icmp_eq (tgt := 658) hx hb dL_law_314 (by decide) (fun c1 => ?_) (fun c1 => ?_)
  · exact kk (q_X4_warm_X X (xs (Int32.toNatClampNeg (x + 1)))) R L G I L2 G2 I2 o1 o2 o3 (q_X5_warm_Y Y (xs (Int32.toNatClampNeg (x + 1)))) ru ic wm ga fe dr mn pr hg al sd on ot we tr H locs ho.2 hP hD hS
  · exact absurd ho.1 c1
set_option maxHeartbeats 4000000 in
set_option maxRecDepth 100000 in
theorem lk_set {p : Program} {l : Launch} {e : Env} {s : State} {m : MethodId} {below : List Frame} {meth : Method} {c : Code} {D : va_G} {cI : ClassId} {A : Nat → Prop} {b N : Nat} {xs : Nat → Int32} {ax ar av ld lg li tb tg ti ah a1 a2 a3 : Nat} {a : Nat → Nat} {X R L G I L2 G2 I2 o1 o2 o3 Y ru ic wm ga fe dr mn pr hg al sd on ot we tr : Nat → Int32} {H : Heap} {locs : List Loc} {ls : Array Slot} {x : Int32} {Q : State → Prop} (C : Ctx p s m #[Value.ref b] c code 4 RL D cI A) (hX : va_X b N xs s s.heap) (hbl : b < s.heap.size) (hbA : ¬ A b) (i1 : vp_in (x + 1) N) (i2 : vp_in (x + 2) N) (i3 : vp_in (x + 3) N) (hrel : REL X R L G I L2 G2 I2 o1 o2 o3 Y ru ic wm ga fe dr mn pr hg al sd on ot we tr) (hP : va_P D vwCl (lwW cI ax ar av ld lg li tb tg ti ah a1 a2 a3 a X R L G I L2 G2 I2 o1 o2 o3 Y ru ic wm ga fe dr mn pr hg al sd on ot we tr) H) (hD : va_D A (lwW cI ax ar av ld lg li tb tg ti ah a1 a2 a3 a X R L G I L2 G2 I2 o1 o2 o3 Y ru ic wm ga fe dr mn pr hg al sd on ot we tr)) (hS : va_S A s.heap H locs) (hl : lv_has ls 4 [(0, .ref b), (1, .ref ax), (2, .ref (a 0)), (3, .int x)]) (kk : ∀ (X R L G I L2 G2 I2 o1 o2 o3 Y ru ic wm ga fe dr mn pr hg al sd on ot we tr : Nat → Int32) (H : Heap) (locs : List Loc), REL X R L G I L2 G2 I2 o1 o2 o3 Y ru ic wm ga fe dr mn pr hg al sd on ot we tr → va_P D vwCl (lwW cI ax ar av ld lg li tb tg ti ah a1 a2 a3 a X R L G I L2 G2 I2 o1 o2 o3 Y ru ic wm ga fe dr mn pr hg al sd on ot we tr) H → va_D A (lwW cI ax ar av ld lg li tb tg ti ah a1 a2 a3 a X R L G I L2 G2 I2 o1 o2 o3 Y ru ic wm ga fe dr mn pr hg al sd on ot we tr) → va_S A s.heap H locs → W p l e room_1 s m #[Value.ref b] below meth c H locs 29 12364 Q (F0 m 658 ls [])) : W p l e room_1 s m #[Value.ref b] below meth c H locs 29 12364 Q (F0 m 319 ls []) := by
  have hx := C.1.1
  have hb := C.1.2.1
  have hY : SH Y := hrel.1.2.2
  have hRB : RB ru := hrel.1.2.1
  have hv := sh_hv hY
  have h1 := sh_h1 hY
  have hc := sh_hc hY
  have hwm := hrel.2.2.1.1
  have hps := hrel.2.2.1.2
  have hm2 : Int32.toInt (mn 0) ≤ 2000 := by rw [hrel.2.2.2.1.1]; exact hrel.2.2.2.1.2.2
  have hmo : Int32.toInt (L 2) < 2147483647 := by have := hrel.2.2.2.1.2.2; omega
  have hld : ¬ Y 3 = 0 → MREL Y 0 ru ic wm ga fe dr mn pr hg al sd := fun z => ⟨_, _, _, hrel.2.2.2.2.1 z⟩
  refine lv_aload_n hx hb dL_law_319 rfl (lv_at hl 1 rfl) ?_
  refine lv_aload_n hx hb dL_law_320 rfl (lv_at hl 0 rfl) ?_
  refine lv_iload_n hx hb dL_law_321 rfl (lv_at hl 3 rfl) ?_
  refine lv_iconst (v := 1) hx hb dL_law_322 (by decide) ?_
  refine lv_iadd hx hb dL_law_323 ?_
  refine va_sld hx hb hX hbl hbA hS i1 dL_law_324 ?_
  refine go_i (ws' := (lwW cI ax ar av ld lg li tb tg ti ah a1 a2 a3 a (q_X4_set_X X (xs (Int32.toNatClampNeg (x + 1)))) R L G I L2 G2 I2 o1 o2 o3 Y ru ic wm ga fe dr mn pr hg al sd on ot we tr)) C (rn_V (As := [.int (xs (Int32.toNatClampNeg (x + 1)))]) (rest := []) C (c_X4_set l D cI ax ar ld tb ah X (xs (Int32.toNatClampNeg (x + 1))) H.size) ck_X4_set wd_2_15 wd_2_16 wd_2_14 ⟨Nat.le_of_ble_eq_true rfl, Nat.le_of_ble_eq_true rfl⟩ ⟨by decide, by decide⟩ (ci := 4) (q0 := 0) rfl rfl hP hD hS [0] rfl rfl hl rfl (Nat.le_of_ble_eq_true rfl) dL_law_325) hP hD hS [0] rfl rfl rfl (fun H locs hP hD hS => ?_)
  refine lv_aload_n hx hb dL_law_328 rfl (lv_at hl 2 rfl) ?_
  refine lv_aload_n hx hb dL_law_329 rfl (lv_at hl 0 rfl) ?_
  refine lv_iload_n hx hb dL_law_330 rfl (lv_at hl 3 rfl) ?_
  refine lv_iconst (v := 1) hx hb dL_law_331 (by decide) ?_
  refine lv_iadd hx hb dL_law_332 ?_
  refine va_sld hx hb hX hbl hbA hS i1 dL_law_333 ?_
  refine go_i (ws' := (lwW cI ax ar av ld lg li tb tg ti ah a1 a2 a3 a (q_X4_set_X X (xs (Int32.toNatClampNeg (x + 1)))) R L G I L2 G2 I2 o1 o2 o3 (q_X5_set_Y Y (xs (Int32.toNatClampNeg (x + 1)))) ru ic wm ga fe dr mn pr hg al sd on ot we tr)) C (rn_V (As := [.int (xs (Int32.toNatClampNeg (x + 1)))]) (rest := [.int (r_X4_set X (xs (Int32.toNatClampNeg (x + 1))))]) C (c_X5_set l D cI a Y (xs (Int32.toNatClampNeg (x + 1))) H.size) ck_X5_set wd_3_37 wd_3_38 wd_3_36 ⟨Nat.le_of_ble_eq_true rfl, Nat.le_of_ble_eq_true rfl⟩ ⟨by decide, by decide⟩ (ci := 5) (q0 := 13) rfl rfl hP hD hS [13] rfl rfl hl rfl (Nat.le_of_ble_eq_true rfl) dL_law_334) hP hD hS [13] rfl rfl rfl (fun H locs hP hD hS => ?_)
  have ho := op_set (p0 := (xs (Int32.toNatClampNeg (x + 1)))) hrel
  refine lv_icmp_eq (tgt := 658) hx hb dL_law_337 (by decide) (fun c1 => ?_) (fun c1 => ?_)
  · exact kk (q_X4_set_X X (xs (Int32.toNatClampNeg (x + 1)))) R L G I L2 G2 I2 o1 o2 o3 (q_X5_set_Y Y (xs (Int32.toNatClampNeg (x + 1)))) ru ic wm ga fe dr mn pr hg al sd on ot we tr H locs ho.2 hP hD hS
  · exact absurd ho.1 c1
set_option maxHeartbeats 4000000 in
set_option maxRecDepth 100000 in
theorem lk_unload {p : Program} {l : Launch} {e : Env} {s : State} {m : MethodId} {below : List Frame} {meth : Method} {c : Code} {D : va_G} {cI : ClassId} {A : Nat → Prop} {b N : Nat} {xs : Nat → Int32} {ax ar av ld lg li tb tg ti ah a1 a2 a3 : Nat} {a : Nat → Nat} {X R L G I L2 G2 I2 o1 o2 o3 Y ru ic wm ga fe dr mn pr hg al sd on ot we tr : Nat → Int32} {H : Heap} {locs : List Loc} {ls : Array Slot} {x : Int32} {Q : State → Prop} (C : Ctx p s m #[Value.ref b] c code 4 RL D cI A) (hX : va_X b N xs s s.heap) (hbl : b < s.heap.size) (hbA : ¬ A b) (i1 : vp_in (x + 1) N) (i2 : vp_in (x + 2) N) (i3 : vp_in (x + 3) N) (hrel : REL X R L G I L2 G2 I2 o1 o2 o3 Y ru ic wm ga fe dr mn pr hg al sd on ot we tr) (hP : va_P D vwCl (lwW cI ax ar av ld lg li tb tg ti ah a1 a2 a3 a X R L G I L2 G2 I2 o1 o2 o3 Y ru ic wm ga fe dr mn pr hg al sd on ot we tr) H) (hD : va_D A (lwW cI ax ar av ld lg li tb tg ti ah a1 a2 a3 a X R L G I L2 G2 I2 o1 o2 o3 Y ru ic wm ga fe dr mn pr hg al sd on ot we tr)) (hS : va_S A s.heap H locs) (hl : lv_has ls 4 [(0, .ref b), (1, .ref ax), (2, .ref (a 0)), (3, .int x)]) (kk : ∀ (X R L G I L2 G2 I2 o1 o2 o3 Y ru ic wm ga fe dr mn pr hg al sd on ot we tr : Nat → Int32) (H : Heap) (locs : List Loc), REL X R L G I L2 G2 I2 o1 o2 o3 Y ru ic wm ga fe dr mn pr hg al sd on ot we tr → va_P D vwCl (lwW cI ax ar av ld lg li tb tg ti ah a1 a2 a3 a X R L G I L2 G2 I2 o1 o2 o3 Y ru ic wm ga fe dr mn pr hg al sd on ot we tr) H → va_D A (lwW cI ax ar av ld lg li tb tg ti ah a1 a2 a3 a X R L G I L2 G2 I2 o1 o2 o3 Y ru ic wm ga fe dr mn pr hg al sd on ot we tr) → va_S A s.heap H locs → W p l e room_1 s m #[Value.ref b] below meth c H locs 29 12364 Q (F0 m 658 ls [])) : W p l e room_1 s m #[Value.ref b] below meth c H locs 29 12364 Q (F0 m 365 ls []) := by
  have hx := C.1.1
  have hb := C.1.2.1
  have hY : SH Y := hrel.1.2.2
  have hRB : RB ru := hrel.1.2.1
  have hv := sh_hv hY
  have h1 := sh_h1 hY
  have hc := sh_hc hY
  have hwm := hrel.2.2.1.1
  have hps := hrel.2.2.1.2
  have hm2 : Int32.toInt (mn 0) ≤ 2000 := by rw [hrel.2.2.2.1.1]; exact hrel.2.2.2.1.2.2
  have hmo : Int32.toInt (L 2) < 2147483647 := by have := hrel.2.2.2.1.2.2; omega
  have hld : ¬ Y 3 = 0 → MREL Y 0 ru ic wm ga fe dr mn pr hg al sd := fun z => ⟨_, _, _, hrel.2.2.2.2.1 z⟩
  refine lv_aload_n hx hb dL_law_365 rfl (lv_at hl 1 rfl) ?_
  refine go_i (ws' := (lwW cI ax ar av ld lg li tb tg ti ah a1 a2 a3 a (q_X4_unload_X X) R L G I L2 G2 I2 o1 o2 o3 Y ru ic wm ga fe dr mn pr hg al sd on ot we tr)) C (rn_V (As := []) (rest := []) C (c_X4_unload l D cI ax ar ld tb ah X lg li L G I H.size) ck_X4_unload wd_2_47 wd_2_48 wd_2_46 ⟨Nat.le_of_ble_eq_true rfl, Nat.le_of_ble_eq_true rfl⟩ ⟨by decide, by decide⟩ (ci := 4) (q0 := 0) rfl rfl hP hD hS [0, 3, 4, 5] rfl rfl hl rfl (Nat.le_of_ble_eq_true rfl) dL_law_366) hP hD hS [0, 3, 4, 5] rfl rfl rfl (fun H locs hP hD hS => ?_)
  refine lv_aload_n hx hb dL_law_369 rfl (lv_at hl 2 rfl) ?_
  refine go_i (ws' := (lwW cI ax ar av ld lg li tb tg ti ah a1 a2 a3 a (q_X4_unload_X X) R L G I L2 G2 I2 o1 o2 o3 (q_X5_unload_Y Y) ru ic wm ga fe dr mn pr hg al sd on ot we tr)) C (rn_V (As := []) (rest := [.int (r_X4_unload X G I)]) C (c_X5_unload l D cI a Y ic hv H.size) ck_X5_unload wd_3_63 wd_3_64 wd_3_62 ⟨Nat.le_of_ble_eq_true rfl, Nat.le_of_ble_eq_true rfl⟩ ⟨by decide, by decide⟩ (ci := 5) (q0 := 13) rfl rfl hP hD hS [13, 15] rfl rfl hl rfl (Nat.le_of_ble_eq_true rfl) dL_law_370) hP hD hS [13, 15] rfl rfl rfl (fun H locs hP hD hS => ?_)
  have ho := op_unload hrel
  refine lv_icmp_eq (tgt := 658) hx hb dL_law_373 (by decide) (fun c1 => ?_) (fun c1 => ?_)
  · exact kk (q_X4_unload_X X) R L G I L2 G2 I2 o1 o2 o3 (q_X5_unload_Y Y) ru ic wm ga fe dr mn pr hg al sd on ot we tr H locs ho.2 hP hD hS
  · exact absurd ho.1 c1
set_option maxHeartbeats 4000000 in
set_option maxRecDepth 100000 in
theorem lk_vial {p : Program} {l : Launch} {e : Env} {s : State} {m : MethodId} {below : List Frame} {meth : Method} {c : Code} {D : va_G} {cI : ClassId} {A : Nat → Prop} {b N : Nat} {xs : Nat → Int32} {ax ar av ld lg li tb tg ti ah a1 a2 a3 : Nat} {a : Nat → Nat} {X R L G I L2 G2 I2 o1 o2 o3 Y ru ic wm ga fe dr mn pr hg al sd on ot we tr : Nat → Int32} {H : Heap} {locs : List Loc} {ls : Array Slot} {x : Int32} {Q : State → Prop} (C : Ctx p s m #[Value.ref b] c code 4 RL D cI A) (hX : va_X b N xs s s.heap) (hbl : b < s.heap.size) (hbA : ¬ A b) (i1 : vp_in (x + 1) N) (i2 : vp_in (x + 2) N) (i3 : vp_in (x + 3) N) (hrel : REL X R L G I L2 G2 I2 o1 o2 o3 Y ru ic wm ga fe dr mn pr hg al sd on ot we tr) (hP : va_P D vwCl (lwW cI ax ar av ld lg li tb tg ti ah a1 a2 a3 a X R L G I L2 G2 I2 o1 o2 o3 Y ru ic wm ga fe dr mn pr hg al sd on ot we tr) H) (hD : va_D A (lwW cI ax ar av ld lg li tb tg ti ah a1 a2 a3 a X R L G I L2 G2 I2 o1 o2 o3 Y ru ic wm ga fe dr mn pr hg al sd on ot we tr)) (hS : va_S A s.heap H locs) (hl : lv_has ls 4 [(0, .ref b), (1, .ref ax), (2, .ref (a 0)), (3, .int x)]) (kk : ∀ (X R L G I L2 G2 I2 o1 o2 o3 Y ru ic wm ga fe dr mn pr hg al sd on ot we tr : Nat → Int32) (H : Heap) (locs : List Loc), REL X R L G I L2 G2 I2 o1 o2 o3 Y ru ic wm ga fe dr mn pr hg al sd on ot we tr → va_P D vwCl (lwW cI ax ar av ld lg li tb tg ti ah a1 a2 a3 a X R L G I L2 G2 I2 o1 o2 o3 Y ru ic wm ga fe dr mn pr hg al sd on ot we tr) H → va_D A (lwW cI ax ar av ld lg li tb tg ti ah a1 a2 a3 a X R L G I L2 G2 I2 o1 o2 o3 Y ru ic wm ga fe dr mn pr hg al sd on ot we tr) → va_S A s.heap H locs → W p l e room_1 s m #[Value.ref b] below meth c H locs 29 12364 Q (F0 m 658 ls [])) : W p l e room_1 s m #[Value.ref b] below meth c H locs 29 12364 Q (F0 m 378 ls []) := by
  have hx := C.1.1
  have hb := C.1.2.1
  have hY : SH Y := hrel.1.2.2
  have hRB : RB ru := hrel.1.2.1
  have hv := sh_hv hY
  have h1 := sh_h1 hY
  have hc := sh_hc hY
  have hwm := hrel.2.2.1.1
  have hps := hrel.2.2.1.2
  have hm2 : Int32.toInt (mn 0) ≤ 2000 := by rw [hrel.2.2.2.1.1]; exact hrel.2.2.2.1.2.2
  have hmo : Int32.toInt (L 2) < 2147483647 := by have := hrel.2.2.2.1.2.2; omega
  have hld : ¬ Y 3 = 0 → MREL Y 0 ru ic wm ga fe dr mn pr hg al sd := fun z => ⟨_, _, _, hrel.2.2.2.2.1 z⟩
  refine lv_aload_n hx hb dL_law_378 rfl (lv_at hl 1 rfl) ?_
  refine lv_aload_n hx hb dL_law_379 rfl (lv_at hl 0 rfl) ?_
  refine lv_iload_n hx hb dL_law_380 rfl (lv_at hl 3 rfl) ?_
  refine lv_iconst (v := 1) hx hb dL_law_381 (by decide) ?_
  refine lv_iadd hx hb dL_law_382 ?_
  refine va_sld hx hb hX hbl hbA hS i1 dL_law_383 ?_
  refine lv_aload_n hx hb dL_law_384 rfl (lv_at hl 0 rfl) ?_
  refine lv_iload_n hx hb dL_law_385 rfl (lv_at hl 3 rfl) ?_
  refine lv_iconst (v := 2) hx hb dL_law_386 (by decide) ?_
  refine lv_iadd hx hb dL_law_387 ?_
  refine va_sld hx hb hX hbl hbA hS i2 dL_law_388 ?_
  refine go_i (ws' := (lwW cI ax ar av ld lg li tb tg ti ah a1 a2 a3 a X R L G I L2 G2 I2 o1 o2 o3 Y ru ic wm ga fe dr mn pr hg al sd on ot we tr)) C (rn_V (As := [.int (xs (Int32.toNatClampNeg (x + 1))), .int (xs (Int32.toNatClampNeg (x + 2)))]) (rest := []) C (c_X4_vial l D cI ax ar ld tb ah X lg li L G I (xs (Int32.toNatClampNeg (x + 1))) (xs (Int32.toNatClampNeg (x + 2))) H.size) ck_X4_vial wd_2_52 wd_2_53 wd_2_51 ⟨Nat.le_of_ble_eq_true rfl, Nat.le_of_ble_eq_true rfl⟩ ⟨by decide, by decide⟩ (ci := 4) (q0 := 0) rfl rfl hP hD hS [0, 3, 4, 5] rfl rfl hl rfl (Nat.le_of_ble_eq_true rfl) dL_law_389) hP hD hS [0, 3, 4, 5] rfl rfl rfl (fun H locs hP hD hS => ?_)
  refine lv_aload_n hx hb dL_law_392 rfl (lv_at hl 2 rfl) ?_
  refine lv_aload_n hx hb dL_law_393 rfl (lv_at hl 0 rfl) ?_
  refine lv_iload_n hx hb dL_law_394 rfl (lv_at hl 3 rfl) ?_
  refine lv_iconst (v := 1) hx hb dL_law_395 (by decide) ?_
  refine lv_iadd hx hb dL_law_396 ?_
  refine va_sld hx hb hX hbl hbA hS i1 dL_law_397 ?_
  refine lv_aload_n hx hb dL_law_398 rfl (lv_at hl 0 rfl) ?_
  refine lv_iload_n hx hb dL_law_399 rfl (lv_at hl 3 rfl) ?_
  refine lv_iconst (v := 2) hx hb dL_law_400 (by decide) ?_
  refine lv_iadd hx hb dL_law_401 ?_
  refine va_sld hx hb hX hbl hbA hS i2 dL_law_402 ?_
  refine go_i (ws' := (lwW cI ax ar av ld lg li tb tg ti ah a1 a2 a3 a X R L G I L2 G2 I2 o1 o2 o3 Y ru ic wm ga fe dr mn pr hg al sd on ot we tr)) C (rn_V (As := [.int (xs (Int32.toNatClampNeg (x + 1))), .int (xs (Int32.toNatClampNeg (x + 2)))]) (rest := [.int (r_X4_vial X G I (xs (Int32.toNatClampNeg (x + 1))) (xs (Int32.toNatClampNeg (x + 2))))]) C (c_X5_vial l D cI a Y ic wm ga fe dr (xs (Int32.toNatClampNeg (x + 1))) (xs (Int32.toNatClampNeg (x + 2))) h1 hv H.size) ck_X5_vial wd_3_67 wd_3_68 wd_3_66 ⟨Nat.le_of_ble_eq_true rfl, Nat.le_of_ble_eq_true rfl⟩ ⟨by decide, by decide⟩ (ci := 5) (q0 := 13) rfl rfl hP hD hS [13, 15, 16, 17, 18, 19] rfl rfl hl rfl (Nat.le_of_ble_eq_true rfl) dL_law_403) hP hD hS [13, 15, 16, 17, 18, 19] rfl rfl rfl (fun H locs hP hD hS => ?_)
  have ho := op_vial (k := (xs (Int32.toNatClampNeg (x + 1)))) (wh := (xs (Int32.toNatClampNeg (x + 2)))) hrel
  refine lv_icmp_eq (tgt := 658) hx hb dL_law_406 (by decide) (fun c1 => ?_) (fun c1 => ?_)
  · exact kk X R L G I L2 G2 I2 o1 o2 o3 Y ru ic wm ga fe dr mn pr hg al sd on ot we tr H locs hrel hP hD hS
  · exact absurd ho c1
set_option maxHeartbeats 4000000 in
set_option maxRecDepth 100000 in
theorem lk_about {p : Program} {l : Launch} {e : Env} {s : State} {m : MethodId} {below : List Frame} {meth : Method} {c : Code} {D : va_G} {cI : ClassId} {A : Nat → Prop} {b N : Nat} {xs : Nat → Int32} {ax ar av ld lg li tb tg ti ah a1 a2 a3 : Nat} {a : Nat → Nat} {X R L G I L2 G2 I2 o1 o2 o3 Y ru ic wm ga fe dr mn pr hg al sd on ot we tr : Nat → Int32} {H : Heap} {locs : List Loc} {ls : Array Slot} {x : Int32} {Q : State → Prop} (C : Ctx p s m #[Value.ref b] c code 4 RL D cI A) (hX : va_X b N xs s s.heap) (hbl : b < s.heap.size) (hbA : ¬ A b) (i1 : vp_in (x + 1) N) (i2 : vp_in (x + 2) N) (i3 : vp_in (x + 3) N) (hrel : REL X R L G I L2 G2 I2 o1 o2 o3 Y ru ic wm ga fe dr mn pr hg al sd on ot we tr) (hP : va_P D vwCl (lwW cI ax ar av ld lg li tb tg ti ah a1 a2 a3 a X R L G I L2 G2 I2 o1 o2 o3 Y ru ic wm ga fe dr mn pr hg al sd on ot we tr) H) (hD : va_D A (lwW cI ax ar av ld lg li tb tg ti ah a1 a2 a3 a X R L G I L2 G2 I2 o1 o2 o3 Y ru ic wm ga fe dr mn pr hg al sd on ot we tr)) (hS : va_S A s.heap H locs) (hl : lv_has ls 4 [(0, .ref b), (1, .ref ax), (2, .ref (a 0)), (3, .int x)]) (kk : ∀ (X R L G I L2 G2 I2 o1 o2 o3 Y ru ic wm ga fe dr mn pr hg al sd on ot we tr : Nat → Int32) (H : Heap) (locs : List Loc), REL X R L G I L2 G2 I2 o1 o2 o3 Y ru ic wm ga fe dr mn pr hg al sd on ot we tr → va_P D vwCl (lwW cI ax ar av ld lg li tb tg ti ah a1 a2 a3 a X R L G I L2 G2 I2 o1 o2 o3 Y ru ic wm ga fe dr mn pr hg al sd on ot we tr) H → va_D A (lwW cI ax ar av ld lg li tb tg ti ah a1 a2 a3 a X R L G I L2 G2 I2 o1 o2 o3 Y ru ic wm ga fe dr mn pr hg al sd on ot we tr) → va_S A s.heap H locs → W p l e room_1 s m #[Value.ref b] below meth c H locs 29 12364 Q (F0 m 658 ls [])) : W p l e room_1 s m #[Value.ref b] below meth c H locs 29 12364 Q (F0 m 411 ls []) := by
  have hx := C.1.1
  have hb := C.1.2.1
  have hY : SH Y := hrel.1.2.2
  have hRB : RB ru := hrel.1.2.1
  have hv := sh_hv hY
  have h1 := sh_h1 hY
  have hc := sh_hc hY
  have hwm := hrel.2.2.1.1
  have hps := hrel.2.2.1.2
  have hm2 : Int32.toInt (mn 0) ≤ 2000 := by rw [hrel.2.2.2.1.1]; exact hrel.2.2.2.1.2.2
  have hmo : Int32.toInt (L 2) < 2147483647 := by have := hrel.2.2.2.1.2.2; omega
  have hld : ¬ Y 3 = 0 → MREL Y 0 ru ic wm ga fe dr mn pr hg al sd := fun z => ⟨_, _, _, hrel.2.2.2.2.1 z⟩
  refine lv_aload_n hx hb dL_law_411 rfl (lv_at hl 1 rfl) ?_
  refine lv_aload_n hx hb dL_law_412 rfl (lv_at hl 0 rfl) ?_
  refine lv_iload_n hx hb dL_law_413 rfl (lv_at hl 3 rfl) ?_
  refine lv_iconst (v := 1) hx hb dL_law_414 (by decide) ?_
  refine lv_iadd hx hb dL_law_415 ?_
  refine va_sld hx hb hX hbl hbA hS i1 dL_law_416 ?_
  refine go_i (ws' := (lwW cI ax ar av ld lg li tb tg ti ah a1 a2 a3 a X R L G I L2 G2 I2 o1 o2 o3 Y ru ic wm ga fe dr mn pr hg al sd on ot we tr)) C (rn_V (As := [.int (xs (Int32.toNatClampNeg (x + 1)))]) (rest := []) C (c_X4_about l D cI ax ar ld tb ah X lg li L G I (xs (Int32.toNatClampNeg (x + 1))) H.size) ck_X4_about wd_2_60 wd_2_61 wd_2_59 ⟨Nat.le_of_ble_eq_true rfl, Nat.le_of_ble_eq_true rfl⟩ ⟨by decide, by decide⟩ (ci := 4) (q0 := 0) rfl rfl hP hD hS [0, 3, 4, 5] rfl rfl hl rfl (Nat.le_of_ble_eq_true rfl) dL_law_417) hP hD hS [0, 3, 4, 5] rfl rfl rfl (fun H locs hP hD hS => ?_)
  refine lv_aload_n hx hb dL_law_420 rfl (lv_at hl 2 rfl) ?_
  refine lv_aload_n hx hb dL_law_421 rfl (lv_at hl 0 rfl) ?_
  refine lv_iload_n hx hb dL_law_422 rfl (lv_at hl 3 rfl) ?_
  refine lv_iconst (v := 1) hx hb dL_law_423 (by decide) ?_
  refine lv_iadd hx hb dL_law_424 ?_
  refine va_sld hx hb hX hbl hbA hS i1 dL_law_425 ?_
  refine go_i (ws' := (lwW cI ax ar av ld lg li tb tg ti ah a1 a2 a3 a X R L G I L2 G2 I2 o1 o2 o3 Y ru ic wm ga fe dr mn pr hg al sd on ot we tr)) C (rn_V (As := [.int (xs (Int32.toNatClampNeg (x + 1)))]) (rest := [.int (r_X4_about X L G I (xs (Int32.toNatClampNeg (x + 1))))]) C (c_X5_about l D cI a Y ic fe mn pr hg al sd (xs (Int32.toNatClampNeg (x + 1))) hv H.size) ck_X5_about wd_3_71 wd_3_72 wd_3_70 ⟨Nat.le_of_ble_eq_true rfl, Nat.le_of_ble_eq_true rfl⟩ ⟨by decide, by decide⟩ (ci := 5) (q0 := 13) rfl rfl hP hD hS [13, 15, 18, 20, 21, 22, 23, 24] rfl rfl hl rfl (Nat.le_of_ble_eq_true rfl) dL_law_426) hP hD hS [13, 15, 18, 20, 21, 22, 23, 24] rfl rfl rfl (fun H locs hP hD hS => ?_)
  have ho := op_about (wh := (xs (Int32.toNatClampNeg (x + 1)))) hrel
  refine lv_icmp_eq (tgt := 658) hx hb dL_law_429 (by decide) (fun c1 => ?_) (fun c1 => ?_)
  · exact kk X R L G I L2 G2 I2 o1 o2 o3 Y ru ic wm ga fe dr mn pr hg al sd on ot we tr H locs hrel hP hD hS
  · exact absurd ho c1
set_option maxHeartbeats 4000000 in
set_option maxRecDepth 100000 in
theorem lk_gauge {p : Program} {l : Launch} {e : Env} {s : State} {m : MethodId} {below : List Frame} {meth : Method} {c : Code} {D : va_G} {cI : ClassId} {A : Nat → Prop} {b N : Nat} {xs : Nat → Int32} {ax ar av ld lg li tb tg ti ah a1 a2 a3 : Nat} {a : Nat → Nat} {X R L G I L2 G2 I2 o1 o2 o3 Y ru ic wm ga fe dr mn pr hg al sd on ot we tr : Nat → Int32} {H : Heap} {locs : List Loc} {ls : Array Slot} {x : Int32} {Q : State → Prop} (C : Ctx p s m #[Value.ref b] c code 4 RL D cI A) (hX : va_X b N xs s s.heap) (hbl : b < s.heap.size) (hbA : ¬ A b) (i1 : vp_in (x + 1) N) (i2 : vp_in (x + 2) N) (i3 : vp_in (x + 3) N) (hrel : REL X R L G I L2 G2 I2 o1 o2 o3 Y ru ic wm ga fe dr mn pr hg al sd on ot we tr) (hP : va_P D vwCl (lwW cI ax ar av ld lg li tb tg ti ah a1 a2 a3 a X R L G I L2 G2 I2 o1 o2 o3 Y ru ic wm ga fe dr mn pr hg al sd on ot we tr) H) (hD : va_D A (lwW cI ax ar av ld lg li tb tg ti ah a1 a2 a3 a X R L G I L2 G2 I2 o1 o2 o3 Y ru ic wm ga fe dr mn pr hg al sd on ot we tr)) (hS : va_S A s.heap H locs) (hl : lv_has ls 4 [(0, .ref b), (1, .ref ax), (2, .ref (a 0)), (3, .int x)]) (kk : ∀ (X R L G I L2 G2 I2 o1 o2 o3 Y ru ic wm ga fe dr mn pr hg al sd on ot we tr : Nat → Int32) (H : Heap) (locs : List Loc), REL X R L G I L2 G2 I2 o1 o2 o3 Y ru ic wm ga fe dr mn pr hg al sd on ot we tr → va_P D vwCl (lwW cI ax ar av ld lg li tb tg ti ah a1 a2 a3 a X R L G I L2 G2 I2 o1 o2 o3 Y ru ic wm ga fe dr mn pr hg al sd on ot we tr) H → va_D A (lwW cI ax ar av ld lg li tb tg ti ah a1 a2 a3 a X R L G I L2 G2 I2 o1 o2 o3 Y ru ic wm ga fe dr mn pr hg al sd on ot we tr) → va_S A s.heap H locs → W p l e room_1 s m #[Value.ref b] below meth c H locs 29 12364 Q (F0 m 658 ls [])) : W p l e room_1 s m #[Value.ref b] below meth c H locs 29 12364 Q (F0 m 434 ls []) := by
  have hx := C.1.1
  have hb := C.1.2.1
  have hY : SH Y := hrel.1.2.2
  have hRB : RB ru := hrel.1.2.1
  have hv := sh_hv hY
  have h1 := sh_h1 hY
  have hc := sh_hc hY
  have hwm := hrel.2.2.1.1
  have hps := hrel.2.2.1.2
  have hm2 : Int32.toInt (mn 0) ≤ 2000 := by rw [hrel.2.2.2.1.1]; exact hrel.2.2.2.1.2.2
  have hmo : Int32.toInt (L 2) < 2147483647 := by have := hrel.2.2.2.1.2.2; omega
  have hld : ¬ Y 3 = 0 → MREL Y 0 ru ic wm ga fe dr mn pr hg al sd := fun z => ⟨_, _, _, hrel.2.2.2.2.1 z⟩
  refine lv_aload_n hx hb dL_law_434 rfl (lv_at hl 1 rfl) ?_
  refine lv_aload_n hx hb dL_law_435 rfl (lv_at hl 0 rfl) ?_
  refine lv_iload_n hx hb dL_law_436 rfl (lv_at hl 3 rfl) ?_
  refine lv_iconst (v := 1) hx hb dL_law_437 (by decide) ?_
  refine lv_iadd hx hb dL_law_438 ?_
  refine va_sld hx hb hX hbl hbA hS i1 dL_law_439 ?_
  refine lv_aload_n hx hb dL_law_440 rfl (lv_at hl 0 rfl) ?_
  refine lv_iload_n hx hb dL_law_441 rfl (lv_at hl 3 rfl) ?_
  refine lv_iconst (v := 2) hx hb dL_law_442 (by decide) ?_
  refine lv_iadd hx hb dL_law_443 ?_
  refine va_sld hx hb hX hbl hbA hS i2 dL_law_444 ?_
  refine go_i (ws' := (lwW cI ax ar av ld lg li tb tg ti ah a1 a2 a3 a X R L G I L2 G2 I2 o1 o2 o3 Y ru ic wm ga fe dr mn pr hg al sd on ot we tr)) C (rn_V (As := [.int (xs (Int32.toNatClampNeg (x + 1))), .int (xs (Int32.toNatClampNeg (x + 2)))]) (rest := []) C (c_X4_gauge l D cI ax ar ld tb ah X lg li L a1 a2 a3 o1 o2 o3 (xs (Int32.toNatClampNeg (x + 1))) (xs (Int32.toNatClampNeg (x + 2))) H.size) ck_X4_gauge wd_2_73 wd_2_74 wd_2_72 ⟨Nat.le_of_ble_eq_true rfl, Nat.le_of_ble_eq_true rfl⟩ ⟨by decide, by decide⟩ (ci := 4) (q0 := 0) rfl rfl hP hD hS [0, 3, 9, 10, 11, 12] rfl rfl hl rfl (Nat.le_of_ble_eq_true rfl) dL_law_445) hP hD hS [0, 3, 9, 10, 11, 12] rfl rfl rfl (fun H locs hP hD hS => ?_)
  refine lv_aload_n hx hb dL_law_448 rfl (lv_at hl 2 rfl) ?_
  refine lv_aload_n hx hb dL_law_449 rfl (lv_at hl 0 rfl) ?_
  refine lv_iload_n hx hb dL_law_450 rfl (lv_at hl 3 rfl) ?_
  refine lv_iconst (v := 1) hx hb dL_law_451 (by decide) ?_
  refine lv_iadd hx hb dL_law_452 ?_
  refine va_sld hx hb hX hbl hbA hS i1 dL_law_453 ?_
  refine lv_aload_n hx hb dL_law_454 rfl (lv_at hl 0 rfl) ?_
  refine lv_iload_n hx hb dL_law_455 rfl (lv_at hl 3 rfl) ?_
  refine lv_iconst (v := 2) hx hb dL_law_456 (by decide) ?_
  refine lv_iadd hx hb dL_law_457 ?_
  refine va_sld hx hb hX hbl hbA hS i2 dL_law_458 ?_
  refine go_i (ws' := (lwW cI ax ar av ld lg li tb tg ti ah a1 a2 a3 a X R L G I L2 G2 I2 o1 o2 o3 Y ru ic wm ga fe dr mn pr hg al sd on ot we tr)) C (rn_V (As := [.int (xs (Int32.toNatClampNeg (x + 1))), .int (xs (Int32.toNatClampNeg (x + 2)))]) (rest := [.int (r_X4_gauge X L o1 o2 (xs (Int32.toNatClampNeg (x + 1))) (xs (Int32.toNatClampNeg (x + 2))))]) C (c_X5_gauge l D cI a Y mn on ot (xs (Int32.toNatClampNeg (x + 1))) (xs (Int32.toNatClampNeg (x + 2))) hm2 H.size) ck_X5_gauge wd_3_76 wd_3_77 wd_3_75 ⟨Nat.le_of_ble_eq_true rfl, Nat.le_of_ble_eq_true rfl⟩ ⟨by decide, by decide⟩ (ci := 5) (q0 := 13) rfl rfl hP hD hS [13, 20, 25, 26] rfl rfl hl rfl (Nat.le_of_ble_eq_true rfl) dL_law_459) hP hD hS [13, 20, 25, 26] rfl rfl rfl (fun H locs hP hD hS => ?_)
  have ho := op_gauge (mi := (xs (Int32.toNatClampNeg (x + 1)))) (wh := (xs (Int32.toNatClampNeg (x + 2)))) hrel
  refine lv_icmp_eq (tgt := 658) hx hb dL_law_462 (by decide) (fun c1 => ?_) (fun c1 => ?_)
  · exact kk X R L G I L2 G2 I2 o1 o2 o3 Y ru ic wm ga fe dr mn pr hg al sd on ot we tr H locs hrel hP hD hS
  · exact absurd ho c1
set_option maxHeartbeats 4000000 in
set_option maxRecDepth 100000 in
theorem lk_end {p : Program} {l : Launch} {e : Env} {s : State} {m : MethodId} {below : List Frame} {meth : Method} {c : Code} {D : va_G} {cI : ClassId} {A : Nat → Prop} {b N : Nat} {xs : Nat → Int32} {ax ar av ld lg li tb tg ti ah a1 a2 a3 : Nat} {a : Nat → Nat} {X R L G I L2 G2 I2 o1 o2 o3 Y ru ic wm ga fe dr mn pr hg al sd on ot we tr : Nat → Int32} {H : Heap} {locs : List Loc} {ls : Array Slot} {x : Int32} {Q : State → Prop} (C : Ctx p s m #[Value.ref b] c code 4 RL D cI A) (hX : va_X b N xs s s.heap) (hbl : b < s.heap.size) (hbA : ¬ A b) (i1 : vp_in (x + 1) N) (i2 : vp_in (x + 2) N) (i3 : vp_in (x + 3) N) (hrel : REL X R L G I L2 G2 I2 o1 o2 o3 Y ru ic wm ga fe dr mn pr hg al sd on ot we tr) (hP : va_P D vwCl (lwW cI ax ar av ld lg li tb tg ti ah a1 a2 a3 a X R L G I L2 G2 I2 o1 o2 o3 Y ru ic wm ga fe dr mn pr hg al sd on ot we tr) H) (hD : va_D A (lwW cI ax ar av ld lg li tb tg ti ah a1 a2 a3 a X R L G I L2 G2 I2 o1 o2 o3 Y ru ic wm ga fe dr mn pr hg al sd on ot we tr)) (hS : va_S A s.heap H locs) (hl : lv_has ls 4 [(0, .ref b), (1, .ref ax), (2, .ref (a 0)), (3, .int x)]) (kk : ∀ (X R L G I L2 G2 I2 o1 o2 o3 Y ru ic wm ga fe dr mn pr hg al sd on ot we tr : Nat → Int32) (H : Heap) (locs : List Loc), REL X R L G I L2 G2 I2 o1 o2 o3 Y ru ic wm ga fe dr mn pr hg al sd on ot we tr → va_P D vwCl (lwW cI ax ar av ld lg li tb tg ti ah a1 a2 a3 a X R L G I L2 G2 I2 o1 o2 o3 Y ru ic wm ga fe dr mn pr hg al sd on ot we tr) H → va_D A (lwW cI ax ar av ld lg li tb tg ti ah a1 a2 a3 a X R L G I L2 G2 I2 o1 o2 o3 Y ru ic wm ga fe dr mn pr hg al sd on ot we tr) → va_S A s.heap H locs → W p l e room_1 s m #[Value.ref b] below meth c H locs 29 12364 Q (F0 m 658 ls [])) : W p l e room_1 s m #[Value.ref b] below meth c H locs 29 12364 Q (F0 m 467 ls []) := by
  have hx := C.1.1
  have hb := C.1.2.1
  have hY : SH Y := hrel.1.2.2
  have hRB : RB ru := hrel.1.2.1
  have hv := sh_hv hY
  have h1 := sh_h1 hY
  have hc := sh_hc hY
  have hwm := hrel.2.2.1.1
  have hps := hrel.2.2.1.2
  have hm2 : Int32.toInt (mn 0) ≤ 2000 := by rw [hrel.2.2.2.1.1]; exact hrel.2.2.2.1.2.2
  have hmo : Int32.toInt (L 2) < 2147483647 := by have := hrel.2.2.2.1.2.2; omega
  have hld : ¬ Y 3 = 0 → MREL Y 0 ru ic wm ga fe dr mn pr hg al sd := fun z => ⟨_, _, _, hrel.2.2.2.2.1 z⟩
  refine lv_aload_n hx hb dL_law_467 rfl (lv_at hl 1 rfl) ?_
  refine lv_aload_n hx hb dL_law_468 rfl (lv_at hl 0 rfl) ?_
  refine lv_iload_n hx hb dL_law_469 rfl (lv_at hl 3 rfl) ?_
  refine lv_iconst (v := 1) hx hb dL_law_470 (by decide) ?_
  refine lv_iadd hx hb dL_law_471 ?_
  refine va_sld hx hb hX hbl hbA hS i1 dL_law_472 ?_
  refine lv_aload_n hx hb dL_law_473 rfl (lv_at hl 0 rfl) ?_
  refine lv_iload_n hx hb dL_law_474 rfl (lv_at hl 3 rfl) ?_
  refine lv_iconst (v := 2) hx hb dL_law_475 (by decide) ?_
  refine lv_iadd hx hb dL_law_476 ?_
  refine va_sld hx hb hX hbl hbA hS i2 dL_law_477 ?_
  refine go_i (ws' := (lwW cI ax ar av ld lg li tb tg ti ah a1 a2 a3 a X R L G I L2 G2 I2 o1 o2 o3 Y ru ic wm ga fe dr mn pr hg al sd on ot we tr)) C (rn_V (As := [.int (xs (Int32.toNatClampNeg (x + 1))), .int (xs (Int32.toNatClampNeg (x + 2)))]) (rest := []) C (c_X4_end l D cI ax ar ld tb ah X lg li L a1 a2 a3 o1 o2 o3 (xs (Int32.toNatClampNeg (x + 1))) (xs (Int32.toNatClampNeg (x + 2))) hmo H.size) ck_X4_end wd_2_85 wd_2_86 wd_2_84 ⟨Nat.le_of_ble_eq_true rfl, Nat.le_of_ble_eq_true rfl⟩ ⟨by decide, by decide⟩ (ci := 4) (q0 := 0) rfl rfl hP hD hS [0, 3, 9, 10, 11, 12] rfl rfl hl rfl (Nat.le_of_ble_eq_true rfl) dL_law_478) hP hD hS [0, 3, 9, 10, 11, 12] rfl rfl rfl (fun H locs hP hD hS => ?_)
  refine lv_aload_n hx hb dL_law_481 rfl (lv_at hl 2 rfl) ?_
  refine lv_aload_n hx hb dL_law_482 rfl (lv_at hl 0 rfl) ?_
  refine lv_iload_n hx hb dL_law_483 rfl (lv_at hl 3 rfl) ?_
  refine lv_iconst (v := 1) hx hb dL_law_484 (by decide) ?_
  refine lv_iadd hx hb dL_law_485 ?_
  refine va_sld hx hb hX hbl hbA hS i1 dL_law_486 ?_
  refine lv_aload_n hx hb dL_law_487 rfl (lv_at hl 0 rfl) ?_
  refine lv_iload_n hx hb dL_law_488 rfl (lv_at hl 3 rfl) ?_
  refine lv_iconst (v := 2) hx hb dL_law_489 (by decide) ?_
  refine lv_iadd hx hb dL_law_490 ?_
  refine va_sld hx hb hX hbl hbA hS i2 dL_law_491 ?_
  refine go_i (ws' := (lwW cI ax ar av ld lg li tb tg ti ah a1 a2 a3 a X R L G I L2 G2 I2 o1 o2 o3 Y ru ic wm ga fe dr mn pr hg al sd on ot we tr)) C (rn_V (As := [.int (xs (Int32.toNatClampNeg (x + 1))), .int (xs (Int32.toNatClampNeg (x + 2)))]) (rest := [.int (r_X4_end X L o1 o2 (xs (Int32.toNatClampNeg (x + 1))) (xs (Int32.toNatClampNeg (x + 2))))]) C (c_X5_end l D cI a Y mn on ot (xs (Int32.toNatClampNeg (x + 1))) (xs (Int32.toNatClampNeg (x + 2))) hm2 H.size) ck_X5_end wd_3_80 wd_3_81 wd_3_79 ⟨Nat.le_of_ble_eq_true rfl, Nat.le_of_ble_eq_true rfl⟩ ⟨by decide, by decide⟩ (ci := 5) (q0 := 13) rfl rfl hP hD hS [13, 20, 25, 26] rfl rfl hl rfl (Nat.le_of_ble_eq_true rfl) dL_law_492) hP hD hS [13, 20, 25, 26] rfl rfl rfl (fun H locs hP hD hS => ?_)
  have ho := op_end (to := (xs (Int32.toNatClampNeg (x + 1)))) (hd := (xs (Int32.toNatClampNeg (x + 2)))) hrel
  refine lv_icmp_eq (tgt := 658) hx hb dL_law_495 (by decide) (fun c1 => ?_) (fun c1 => ?_)
  · exact kk X R L G I L2 G2 I2 o1 o2 o3 Y ru ic wm ga fe dr mn pr hg al sd on ot we tr H locs hrel hP hD hS
  · exact absurd ho c1
set_option maxHeartbeats 4000000 in
set_option maxRecDepth 100000 in
theorem lk_wet {p : Program} {l : Launch} {e : Env} {s : State} {m : MethodId} {below : List Frame} {meth : Method} {c : Code} {D : va_G} {cI : ClassId} {A : Nat → Prop} {b N : Nat} {xs : Nat → Int32} {ax ar av ld lg li tb tg ti ah a1 a2 a3 : Nat} {a : Nat → Nat} {X R L G I L2 G2 I2 o1 o2 o3 Y ru ic wm ga fe dr mn pr hg al sd on ot we tr : Nat → Int32} {H : Heap} {locs : List Loc} {ls : Array Slot} {x : Int32} {Q : State → Prop} (C : Ctx p s m #[Value.ref b] c code 4 RL D cI A) (hX : va_X b N xs s s.heap) (hbl : b < s.heap.size) (hbA : ¬ A b) (i1 : vp_in (x + 1) N) (i2 : vp_in (x + 2) N) (i3 : vp_in (x + 3) N) (hrel : REL X R L G I L2 G2 I2 o1 o2 o3 Y ru ic wm ga fe dr mn pr hg al sd on ot we tr) (hP : va_P D vwCl (lwW cI ax ar av ld lg li tb tg ti ah a1 a2 a3 a X R L G I L2 G2 I2 o1 o2 o3 Y ru ic wm ga fe dr mn pr hg al sd on ot we tr) H) (hD : va_D A (lwW cI ax ar av ld lg li tb tg ti ah a1 a2 a3 a X R L G I L2 G2 I2 o1 o2 o3 Y ru ic wm ga fe dr mn pr hg al sd on ot we tr)) (hS : va_S A s.heap H locs) (hl : lv_has ls 4 [(0, .ref b), (1, .ref ax), (2, .ref (a 0)), (3, .int x)]) (kk : ∀ (X R L G I L2 G2 I2 o1 o2 o3 Y ru ic wm ga fe dr mn pr hg al sd on ot we tr : Nat → Int32) (H : Heap) (locs : List Loc), REL X R L G I L2 G2 I2 o1 o2 o3 Y ru ic wm ga fe dr mn pr hg al sd on ot we tr → va_P D vwCl (lwW cI ax ar av ld lg li tb tg ti ah a1 a2 a3 a X R L G I L2 G2 I2 o1 o2 o3 Y ru ic wm ga fe dr mn pr hg al sd on ot we tr) H → va_D A (lwW cI ax ar av ld lg li tb tg ti ah a1 a2 a3 a X R L G I L2 G2 I2 o1 o2 o3 Y ru ic wm ga fe dr mn pr hg al sd on ot we tr) → va_S A s.heap H locs → W p l e room_1 s m #[Value.ref b] below meth c H locs 29 12364 Q (F0 m 658 ls [])) : W p l e room_1 s m #[Value.ref b] below meth c H locs 29 12364 Q (F0 m 500 ls []) := by
  have hx := C.1.1
  have hb := C.1.2.1
  have hY : SH Y := hrel.1.2.2
  have hRB : RB ru := hrel.1.2.1
  have hv := sh_hv hY
  have h1 := sh_h1 hY
  have hc := sh_hc hY
  have hwm := hrel.2.2.1.1
  have hps := hrel.2.2.1.2
  have hm2 : Int32.toInt (mn 0) ≤ 2000 := by rw [hrel.2.2.2.1.1]; exact hrel.2.2.2.1.2.2
  have hmo : Int32.toInt (L 2) < 2147483647 := by have := hrel.2.2.2.1.2.2; omega
  have hld : ¬ Y 3 = 0 → MREL Y 0 ru ic wm ga fe dr mn pr hg al sd := fun z => ⟨_, _, _, hrel.2.2.2.2.1 z⟩
  refine lv_aload_n hx hb dL_law_500 rfl (lv_at hl 1 rfl) ?_
  refine lv_aload_n hx hb dL_law_501 rfl (lv_at hl 0 rfl) ?_
  refine lv_iload_n hx hb dL_law_502 rfl (lv_at hl 3 rfl) ?_
  refine lv_iconst (v := 1) hx hb dL_law_503 (by decide) ?_
  refine lv_iadd hx hb dL_law_504 ?_
  refine va_sld hx hb hX hbl hbA hS i1 dL_law_505 ?_
  refine go_i (ws' := (lwW cI ax ar av ld lg li tb tg ti ah a1 a2 a3 a X R L G I L2 G2 I2 o1 o2 o3 Y ru ic wm ga fe dr mn pr hg al sd on ot we tr)) C (rn_V (As := [.int (xs (Int32.toNatClampNeg (x + 1)))]) (rest := []) C (c_X4_wet l D cI ax ar ld tb ah X lg li L a1 a2 a3 o1 o2 o3 (xs (Int32.toNatClampNeg (x + 1))) H.size) ck_X4_wet wd_2_95 wd_2_96 wd_2_94 ⟨Nat.le_of_ble_eq_true rfl, Nat.le_of_ble_eq_true rfl⟩ ⟨by decide, by decide⟩ (ci := 4) (q0 := 0) rfl rfl hP hD hS [0, 3, 9, 10, 11, 12] rfl rfl hl rfl (Nat.le_of_ble_eq_true rfl) dL_law_506) hP hD hS [0, 3, 9, 10, 11, 12] rfl rfl rfl (fun H locs hP hD hS => ?_)
  refine lv_aload_n hx hb dL_law_509 rfl (lv_at hl 2 rfl) ?_
  refine lv_aload_n hx hb dL_law_510 rfl (lv_at hl 0 rfl) ?_
  refine lv_iload_n hx hb dL_law_511 rfl (lv_at hl 3 rfl) ?_
  refine lv_iconst (v := 1) hx hb dL_law_512 (by decide) ?_
  refine lv_iadd hx hb dL_law_513 ?_
  refine va_sld hx hb hX hbl hbA hS i1 dL_law_514 ?_
  refine go_i (ws' := (lwW cI ax ar av ld lg li tb tg ti ah a1 a2 a3 a X R L G I L2 G2 I2 o1 o2 o3 Y ru ic wm ga fe dr mn pr hg al sd on ot we tr)) C (rn_V (As := [.int (xs (Int32.toNatClampNeg (x + 1)))]) (rest := [.int (r_X4_wet X L o3 (xs (Int32.toNatClampNeg (x + 1))))]) C (c_X5_wet l D cI a Y mn we (xs (Int32.toNatClampNeg (x + 1))) hm2 H.size) ck_X5_wet wd_3_85 wd_3_86 wd_3_84 ⟨Nat.le_of_ble_eq_true rfl, Nat.le_of_ble_eq_true rfl⟩ ⟨by decide, by decide⟩ (ci := 5) (q0 := 13) rfl rfl hP hD hS [13, 20, 27] rfl rfl hl rfl (Nat.le_of_ble_eq_true rfl) dL_law_515) hP hD hS [13, 20, 27] rfl rfl rfl (fun H locs hP hD hS => ?_)
  have ho := op_wet (mi := (xs (Int32.toNatClampNeg (x + 1)))) hrel
  refine lv_icmp_eq (tgt := 658) hx hb dL_law_518 (by decide) (fun c1 => ?_) (fun c1 => ?_)
  · exact kk X R L G I L2 G2 I2 o1 o2 o3 Y ru ic wm ga fe dr mn pr hg al sd on ot we tr H locs hrel hP hD hS
  · exact absurd ho c1
set_option maxHeartbeats 4000000 in
set_option maxRecDepth 100000 in
theorem lk_firstFallen {p : Program} {l : Launch} {e : Env} {s : State} {m : MethodId} {below : List Frame} {meth : Method} {c : Code} {D : va_G} {cI : ClassId} {A : Nat → Prop} {b N : Nat} {xs : Nat → Int32} {ax ar av ld lg li tb tg ti ah a1 a2 a3 : Nat} {a : Nat → Nat} {X R L G I L2 G2 I2 o1 o2 o3 Y ru ic wm ga fe dr mn pr hg al sd on ot we tr : Nat → Int32} {H : Heap} {locs : List Loc} {ls : Array Slot} {x : Int32} {Q : State → Prop} (C : Ctx p s m #[Value.ref b] c code 4 RL D cI A) (hX : va_X b N xs s s.heap) (hbl : b < s.heap.size) (hbA : ¬ A b) (i1 : vp_in (x + 1) N) (i2 : vp_in (x + 2) N) (i3 : vp_in (x + 3) N) (hrel : REL X R L G I L2 G2 I2 o1 o2 o3 Y ru ic wm ga fe dr mn pr hg al sd on ot we tr) (hP : va_P D vwCl (lwW cI ax ar av ld lg li tb tg ti ah a1 a2 a3 a X R L G I L2 G2 I2 o1 o2 o3 Y ru ic wm ga fe dr mn pr hg al sd on ot we tr) H) (hD : va_D A (lwW cI ax ar av ld lg li tb tg ti ah a1 a2 a3 a X R L G I L2 G2 I2 o1 o2 o3 Y ru ic wm ga fe dr mn pr hg al sd on ot we tr)) (hS : va_S A s.heap H locs) (hl : lv_has ls 4 [(0, .ref b), (1, .ref ax), (2, .ref (a 0)), (3, .int x)]) (kk : ∀ (X R L G I L2 G2 I2 o1 o2 o3 Y ru ic wm ga fe dr mn pr hg al sd on ot we tr : Nat → Int32) (H : Heap) (locs : List Loc), REL X R L G I L2 G2 I2 o1 o2 o3 Y ru ic wm ga fe dr mn pr hg al sd on ot we tr → va_P D vwCl (lwW cI ax ar av ld lg li tb tg ti ah a1 a2 a3 a X R L G I L2 G2 I2 o1 o2 o3 Y ru ic wm ga fe dr mn pr hg al sd on ot we tr) H → va_D A (lwW cI ax ar av ld lg li tb tg ti ah a1 a2 a3 a X R L G I L2 G2 I2 o1 o2 o3 Y ru ic wm ga fe dr mn pr hg al sd on ot we tr) → va_S A s.heap H locs → W p l e room_1 s m #[Value.ref b] below meth c H locs 29 12364 Q (F0 m 658 ls [])) : W p l e room_1 s m #[Value.ref b] below meth c H locs 29 12364 Q (F0 m 523 ls []) := by
  have hx := C.1.1
  have hb := C.1.2.1
  have hY : SH Y := hrel.1.2.2
  have hRB : RB ru := hrel.1.2.1
  have hv := sh_hv hY
  have h1 := sh_h1 hY
  have hc := sh_hc hY
  have hwm := hrel.2.2.1.1
  have hps := hrel.2.2.1.2
  have hm2 : Int32.toInt (mn 0) ≤ 2000 := by rw [hrel.2.2.2.1.1]; exact hrel.2.2.2.1.2.2
  have hmo : Int32.toInt (L 2) < 2147483647 := by have := hrel.2.2.2.1.2.2; omega
  have hld : ¬ Y 3 = 0 → MREL Y 0 ru ic wm ga fe dr mn pr hg al sd := fun z => ⟨_, _, _, hrel.2.2.2.2.1 z⟩
  refine lv_aload_n hx hb dL_law_523 rfl (lv_at hl 1 rfl) ?_
  refine go_i (ws' := (lwW cI ax ar av ld lg li tb tg ti ah a1 a2 a3 a X R L G I L2 G2 I2 o1 o2 o3 Y ru ic wm ga fe dr mn pr hg al sd on ot we tr)) C (rn_V (As := []) (rest := []) C (c_X4_firstFallen l D cI ax ar ld tb ah X lg li L G I H.size) ck_X4_firstFallen wd_2_103 wd_2_104 wd_2_102 ⟨Nat.le_of_ble_eq_true rfl, Nat.le_of_ble_eq_true rfl⟩ ⟨by decide, by decide⟩ (ci := 4) (q0 := 0) rfl rfl hP hD hS [0, 3, 4, 5] rfl rfl hl rfl (Nat.le_of_ble_eq_true rfl) dL_law_524) hP hD hS [0, 3, 4, 5] rfl rfl rfl (fun H locs hP hD hS => ?_)
  refine lv_aload_n hx hb dL_law_527 rfl (lv_at hl 2 rfl) ?_
  refine go_i (ws' := (lwW cI ax ar av ld lg li tb tg ti ah a1 a2 a3 a X R L G I L2 G2 I2 o1 o2 o3 Y ru ic wm ga fe dr mn pr hg al sd on ot we tr)) C (rn_V (As := []) (rest := [.int (r_X4_firstFallen X G I)]) C (c_X5_firstFallen l D cI a Y fe hv H.size) ck_X5_firstFallen wd_3_89 wd_3_90 wd_3_88 ⟨Nat.le_of_ble_eq_true rfl, Nat.le_of_ble_eq_true rfl⟩ ⟨by decide, by decide⟩ (ci := 5) (q0 := 13) rfl rfl hP hD hS [13, 18] rfl rfl hl rfl (Nat.le_of_ble_eq_true rfl) dL_law_528) hP hD hS [13, 18] rfl rfl rfl (fun H locs hP hD hS => ?_)
  have ho := op_firstFallen hrel
  refine lv_icmp_eq (tgt := 658) hx hb dL_law_531 (by decide) (fun c1 => ?_) (fun c1 => ?_)
  · exact kk X R L G I L2 G2 I2 o1 o2 o3 Y ru ic wm ga fe dr mn pr hg al sd on ot we tr H locs hrel hP hD hS
  · exact absurd ho c1
set_option maxHeartbeats 4000000 in
set_option maxRecDepth 100000 in
theorem lk_tried {p : Program} {l : Launch} {e : Env} {s : State} {m : MethodId} {below : List Frame} {meth : Method} {c : Code} {D : va_G} {cI : ClassId} {A : Nat → Prop} {b N : Nat} {xs : Nat → Int32} {ax ar av ld lg li tb tg ti ah a1 a2 a3 : Nat} {a : Nat → Nat} {X R L G I L2 G2 I2 o1 o2 o3 Y ru ic wm ga fe dr mn pr hg al sd on ot we tr : Nat → Int32} {H : Heap} {locs : List Loc} {ls : Array Slot} {x : Int32} {Q : State → Prop} (C : Ctx p s m #[Value.ref b] c code 4 RL D cI A) (hX : va_X b N xs s s.heap) (hbl : b < s.heap.size) (hbA : ¬ A b) (i1 : vp_in (x + 1) N) (i2 : vp_in (x + 2) N) (i3 : vp_in (x + 3) N) (hrel : REL X R L G I L2 G2 I2 o1 o2 o3 Y ru ic wm ga fe dr mn pr hg al sd on ot we tr) (hP : va_P D vwCl (lwW cI ax ar av ld lg li tb tg ti ah a1 a2 a3 a X R L G I L2 G2 I2 o1 o2 o3 Y ru ic wm ga fe dr mn pr hg al sd on ot we tr) H) (hD : va_D A (lwW cI ax ar av ld lg li tb tg ti ah a1 a2 a3 a X R L G I L2 G2 I2 o1 o2 o3 Y ru ic wm ga fe dr mn pr hg al sd on ot we tr)) (hS : va_S A s.heap H locs) (hl : lv_has ls 4 [(0, .ref b), (1, .ref ax), (2, .ref (a 0)), (3, .int x)]) (kk : ∀ (X R L G I L2 G2 I2 o1 o2 o3 Y ru ic wm ga fe dr mn pr hg al sd on ot we tr : Nat → Int32) (H : Heap) (locs : List Loc), REL X R L G I L2 G2 I2 o1 o2 o3 Y ru ic wm ga fe dr mn pr hg al sd on ot we tr → va_P D vwCl (lwW cI ax ar av ld lg li tb tg ti ah a1 a2 a3 a X R L G I L2 G2 I2 o1 o2 o3 Y ru ic wm ga fe dr mn pr hg al sd on ot we tr) H → va_D A (lwW cI ax ar av ld lg li tb tg ti ah a1 a2 a3 a X R L G I L2 G2 I2 o1 o2 o3 Y ru ic wm ga fe dr mn pr hg al sd on ot we tr) → va_S A s.heap H locs → W p l e room_1 s m #[Value.ref b] below meth c H locs 29 12364 Q (F0 m 658 ls [])) : W p l e room_1 s m #[Value.ref b] below meth c H locs 29 12364 Q (F0 m 579 ls []) := by
  have hx := C.1.1
  have hb := C.1.2.1
  have hY : SH Y := hrel.1.2.2
  have hRB : RB ru := hrel.1.2.1
  have hv := sh_hv hY
  have h1 := sh_h1 hY
  have hc := sh_hc hY
  have hwm := hrel.2.2.1.1
  have hps := hrel.2.2.1.2
  have hm2 : Int32.toInt (mn 0) ≤ 2000 := by rw [hrel.2.2.2.1.1]; exact hrel.2.2.2.1.2.2
  have hmo : Int32.toInt (L 2) < 2147483647 := by have := hrel.2.2.2.1.2.2; omega
  have hld : ¬ Y 3 = 0 → MREL Y 0 ru ic wm ga fe dr mn pr hg al sd := fun z => ⟨_, _, _, hrel.2.2.2.2.1 z⟩
  refine lv_aload_n hx hb dL_law_579 rfl (lv_at hl 1 rfl) ?_
  refine lv_aload_n hx hb dL_law_580 rfl (lv_at hl 0 rfl) ?_
  refine lv_iload_n hx hb dL_law_581 rfl (lv_at hl 3 rfl) ?_
  refine lv_iconst (v := 1) hx hb dL_law_582 (by decide) ?_
  refine lv_iadd hx hb dL_law_583 ?_
  refine va_sld hx hb hX hbl hbA hS i1 dL_law_584 ?_
  refine go_i (ws' := (lwW cI ax ar av ld lg li tb tg ti ah a1 a2 a3 a X R L G I L2 G2 I2 o1 o2 o3 Y ru ic wm ga fe dr mn pr hg al sd on ot we tr)) C (rn_V (As := [.int (xs (Int32.toNatClampNeg (x + 1)))]) (rest := []) C (c_X4_tried l D cI ax ar ld tb ah X tg ti L2 G2 I2 (xs (Int32.toNatClampNeg (x + 1))) H.size) ck_X4_tried wd_2_127 wd_2_128 wd_2_126 ⟨Nat.le_of_ble_eq_true rfl, Nat.le_of_ble_eq_true rfl⟩ ⟨by decide, by decide⟩ (ci := 4) (q0 := 0) rfl rfl hP hD hS [0, 6, 7, 8] rfl rfl hl rfl (Nat.le_of_ble_eq_true rfl) dL_law_585) hP hD hS [0, 6, 7, 8] rfl rfl rfl (fun H locs hP hD hS => ?_)
  refine lv_aload_n hx hb dL_law_588 rfl (lv_at hl 2 rfl) ?_
  refine lv_aload_n hx hb dL_law_589 rfl (lv_at hl 0 rfl) ?_
  refine lv_iload_n hx hb dL_law_590 rfl (lv_at hl 3 rfl) ?_
  refine lv_iconst (v := 1) hx hb dL_law_591 (by decide) ?_
  refine lv_iadd hx hb dL_law_592 ?_
  refine va_sld hx hb hX hbl hbA hS i1 dL_law_593 ?_
  refine go_i (ws' := (lwW cI ax ar av ld lg li tb tg ti ah a1 a2 a3 a X R L G I L2 G2 I2 o1 o2 o3 Y ru ic wm ga fe dr mn pr hg al sd on ot we tr)) C (rn_V (As := [.int (xs (Int32.toNatClampNeg (x + 1)))]) (rest := [.int (r_X4_tried X L2 G2 I2 (xs (Int32.toNatClampNeg (x + 1))))]) C (c_X5_tried l D cI a Y tr (xs (Int32.toNatClampNeg (x + 1))) H.size) ck_X5_tried wd_3_105 wd_3_106 wd_3_104 ⟨Nat.le_of_ble_eq_true rfl, Nat.le_of_ble_eq_true rfl⟩ ⟨by decide, by decide⟩ (ci := 5) (q0 := 13) rfl rfl hP hD hS [13, 28] rfl rfl hl rfl (Nat.le_of_ble_eq_true rfl) dL_law_594) hP hD hS [13, 28] rfl rfl rfl (fun H locs hP hD hS => ?_)
  have ho := op_tried (k := (xs (Int32.toNatClampNeg (x + 1)))) hrel
  refine lv_icmp_eq (tgt := 658) hx hb dL_law_597 (by decide) (fun c1 => ?_) (fun c1 => ?_)
  · exact kk X R L G I L2 G2 I2 o1 o2 o3 Y ru ic wm ga fe dr mn pr hg al sd on ot we tr H locs hrel hP hD hS
  · exact absurd ho c1
set_option maxHeartbeats 4000000 in
set_option maxRecDepth 100000 in
theorem lk_told {p : Program} {l : Launch} {e : Env} {s : State} {m : MethodId} {below : List Frame} {meth : Method} {c : Code} {D : va_G} {cI : ClassId} {A : Nat → Prop} {b N : Nat} {xs : Nat → Int32} {ax ar av ld lg li tb tg ti ah a1 a2 a3 : Nat} {a : Nat → Nat} {X R L G I L2 G2 I2 o1 o2 o3 Y ru ic wm ga fe dr mn pr hg al sd on ot we tr : Nat → Int32} {H : Heap} {locs : List Loc} {ls : Array Slot} {x : Int32} {Q : State → Prop} (C : Ctx p s m #[Value.ref b] c code 4 RL D cI A) (hX : va_X b N xs s s.heap) (hbl : b < s.heap.size) (hbA : ¬ A b) (i1 : vp_in (x + 1) N) (i2 : vp_in (x + 2) N) (i3 : vp_in (x + 3) N) (hrel : REL X R L G I L2 G2 I2 o1 o2 o3 Y ru ic wm ga fe dr mn pr hg al sd on ot we tr) (hP : va_P D vwCl (lwW cI ax ar av ld lg li tb tg ti ah a1 a2 a3 a X R L G I L2 G2 I2 o1 o2 o3 Y ru ic wm ga fe dr mn pr hg al sd on ot we tr) H) (hD : va_D A (lwW cI ax ar av ld lg li tb tg ti ah a1 a2 a3 a X R L G I L2 G2 I2 o1 o2 o3 Y ru ic wm ga fe dr mn pr hg al sd on ot we tr)) (hS : va_S A s.heap H locs) (hl : lv_has ls 4 [(0, .ref b), (1, .ref ax), (2, .ref (a 0)), (3, .int x)]) (kk : ∀ (X R L G I L2 G2 I2 o1 o2 o3 Y ru ic wm ga fe dr mn pr hg al sd on ot we tr : Nat → Int32) (H : Heap) (locs : List Loc), REL X R L G I L2 G2 I2 o1 o2 o3 Y ru ic wm ga fe dr mn pr hg al sd on ot we tr → va_P D vwCl (lwW cI ax ar av ld lg li tb tg ti ah a1 a2 a3 a X R L G I L2 G2 I2 o1 o2 o3 Y ru ic wm ga fe dr mn pr hg al sd on ot we tr) H → va_D A (lwW cI ax ar av ld lg li tb tg ti ah a1 a2 a3 a X R L G I L2 G2 I2 o1 o2 o3 Y ru ic wm ga fe dr mn pr hg al sd on ot we tr) → va_S A s.heap H locs → W p l e room_1 s m #[Value.ref b] below meth c H locs 29 12364 Q (F0 m 658 ls [])) : W p l e room_1 s m #[Value.ref b] below meth c H locs 29 12364 Q (F0 m 635 ls []) := by
  have hx := C.1.1
  have hb := C.1.2.1
  have hY : SH Y := hrel.1.2.2
  have hRB : RB ru := hrel.1.2.1
  have hv := sh_hv hY
  have h1 := sh_h1 hY
  have hc := sh_hc hY
  have hwm := hrel.2.2.1.1
  have hps := hrel.2.2.1.2
  have hm2 : Int32.toInt (mn 0) ≤ 2000 := by rw [hrel.2.2.2.1.1]; exact hrel.2.2.2.1.2.2
  have hmo : Int32.toInt (L 2) < 2147483647 := by have := hrel.2.2.2.1.2.2; omega
  have hld : ¬ Y 3 = 0 → MREL Y 0 ru ic wm ga fe dr mn pr hg al sd := fun z => ⟨_, _, _, hrel.2.2.2.2.1 z⟩
  refine lv_aload_n hx hb dL_law_635 rfl (lv_at hl 1 rfl) ?_
  refine lv_aload_n hx hb dL_law_636 rfl (lv_at hl 0 rfl) ?_
  refine lv_iload_n hx hb dL_law_637 rfl (lv_at hl 3 rfl) ?_
  refine lv_iconst (v := 1) hx hb dL_law_638 (by decide) ?_
  refine lv_iadd hx hb dL_law_639 ?_
  refine va_sld hx hb hX hbl hbA hS i1 dL_law_640 ?_
  refine go_i (ws' := (lwW cI ax ar av ld lg li tb tg ti ah a1 a2 a3 a X R L G I L2 G2 I2 o1 o2 o3 Y ru ic wm ga fe dr mn pr hg al sd on ot we tr)) C (rn_V (As := [.int (xs (Int32.toNatClampNeg (x + 1)))]) (rest := []) C (c_X4_told l D cI ax ar ld tb ah X av R (xs (Int32.toNatClampNeg (x + 1))) H.size) ck_X4_told wd_2_136 wd_2_137 wd_2_135 ⟨Nat.le_of_ble_eq_true rfl, Nat.le_of_ble_eq_true rfl⟩ ⟨by decide, by decide⟩ (ci := 4) (q0 := 0) rfl rfl hP hD hS [0, 1, 2] rfl rfl hl rfl (Nat.le_of_ble_eq_true rfl) dL_law_641) hP hD hS [0, 1, 2] rfl rfl rfl (fun H locs hP hD hS => ?_)
  refine lv_aload_n hx hb dL_law_644 rfl (lv_at hl 2 rfl) ?_
  refine lv_aload_n hx hb dL_law_645 rfl (lv_at hl 0 rfl) ?_
  refine lv_iload_n hx hb dL_law_646 rfl (lv_at hl 3 rfl) ?_
  refine lv_iconst (v := 1) hx hb dL_law_647 (by decide) ?_
  refine lv_iadd hx hb dL_law_648 ?_
  refine va_sld hx hb hX hbl hbA hS i1 dL_law_649 ?_
  refine go_i (ws' := (lwW cI ax ar av ld lg li tb tg ti ah a1 a2 a3 a X R L G I L2 G2 I2 o1 o2 o3 Y ru ic wm ga fe dr mn pr hg al sd on ot we tr)) C (rn_V (As := [.int (xs (Int32.toNatClampNeg (x + 1)))]) (rest := [.int (r_X4_told X R (xs (Int32.toNatClampNeg (x + 1))))]) C (c_X5_told l D cI a Y ru (xs (Int32.toNatClampNeg (x + 1))) H.size) ck_X5_told wd_3_113 wd_3_114 wd_3_112 ⟨Nat.le_of_ble_eq_true rfl, Nat.le_of_ble_eq_true rfl⟩ ⟨by decide, by decide⟩ (ci := 5) (q0 := 13) rfl rfl hP hD hS [13, 14] rfl rfl hl rfl (Nat.le_of_ble_eq_true rfl) dL_law_650) hP hD hS [13, 14] rfl rfl rfl (fun H locs hP hD hS => ?_)
  have ho := op_told (k := (xs (Int32.toNatClampNeg (x + 1)))) hrel
  refine lv_icmp_eq (tgt := 658) hx hb dL_law_653 (by decide) (fun c1 => ?_) (fun c1 => ?_)
  · exact kk X R L G I L2 G2 I2 o1 o2 o3 Y ru ic wm ga fe dr mn pr hg al sd on ot we tr H locs hrel hP hD hS
  · exact absurd ho c1
