/-! a minute of the reference and of the class, side by side -/
theorem cnt_tab2 : ∀ a : Nat, a < 4 → ∀ b : Nat, b < 6 → 0 ≤ (nI (a + 1) * nI (b + 1) - innr (nI (a + 1)) (nI (b + 1))).toInt ∧ 0 ≤ (innr (nI (a + 1)) (nI (b + 1))).toInt ∧ (nI (a + 1) * nI (b + 1) - innr (nI (a + 1)) (nI (b + 1))).toInt + (innr (nI (a + 1)) (nI (b + 1))).toInt ≤ 24 := by decide +kernel
theorem cnt_bd {Y : Nat → Int32} (h : SH Y) : 0 ≤ (Y 0 * Y 1 - innr (Y 0) (Y 1)).toInt ∧ 0 ≤ (innr (Y 0) (Y 1)).toInt ∧ (Y 0 * Y 1 - innr (Y 0) (Y 1)).toInt + (innr (Y 0) (Y 1)).toInt ≤ 24 := by
  obtain ⟨a, b, ha, hb, e1, e2⟩ := sh_cases h
  rw [e1, e2]
  exact cnt_tab2 a ha b hb
def LREL (Y : Nat → Int32) (w : Int32) (ru ic wm ga fe dr mn pr hg al sd L G I : Nat → Int32) : Prop :=
  (∀ x, x < NV Y → SHW Y w G I ic wm ga fe dr x) ∧ (mn (Int32.toNatClampNeg w) = L 2 ∧ pr (Int32.toNatClampNeg w) = L 3 ∧ hg (Int32.toNatClampNeg w) = L 4 ∧ al (Int32.toNatClampNeg w) = L 5 ∧ sd (Int32.toNatClampNeg w) = L 6)
  ∧ (G 0 = Y 0 * Y 1 - innr (Y 0) (Y 1) ∧ I 0 = innr (Y 0) (Y 1) ∧ G 1 = 0 ∧ I 1 = Y 1 + 1 ∧ G 5 = ru 1 + ru 2 ∧ I 5 = ru 1)
  ∧ GB G ru ∧ GB I ru ∧ (0 ≤ (L 3).toInt ∧ (L 3).toInt ≤ 20000) ∧ (0 ≤ (L 2).toInt ∧ (L 2).toInt ≤ 2000) ∧ (0 ≤ (L 5).toInt ∧ (L 5).toInt ≤ 120000) ∧ (I 0 = 0 → I 2 = 0 ∧ I 4 = (-6))
noncomputable def tT (L G I ru : Nat → Int32) (sh : Int32) : Int32 := (((q_X0_passMinute_G G ru sh (L 3) (L 2)) 3) * ((q_X0_passMinute_G G ru sh (L 3) (L 2)) 0)) + (((q_X0_passMinute_G I ru sh (L 3) (L 2)) 3) * ((q_X0_passMinute_G I ru sh (L 3) (L 2)) 0))
def pB (L ru : Nat → Int32) (T : Int32) : Int32 := r_X2_pressureBehind (l7 (L 2) (L 3) (L 4) T ((L 6) + T)) ru
def pP (L ru : Nat → Int32) (se T : Int32) : Int32 := if se < pB L ru T then pB L ru T else se
theorem passL_val (L G I ru : Nat → Int32) (sh se : Int32) : q_X2_passMinute_L L G I ru sh se = l7 ((L 2) + 1) (pP L ru se (tT L G I ru sh)) (if (L 4) < (pP L ru se (tT L G I ru sh)) then (pP L ru se (tT L G I ru sh)) else (L 4)) (tT L G I ru sh) ((L 6) + (tT L G I ru sh)) := rfl
theorem pB_val {L ru : Nat → Int32} {T : Int32} (hR : RB ru) : pB L ru T = if (T - ru 7) ≤ 0 then (L 3) - ru 9 else (if (L 3) + ((T - ru 7) / (ru 8)) < 20000 then (L 3) + ((T - ru 7) / (ru 8)) else 20000) := by
  have h8 : ¬ ru 8 = 0 := ne0_of (by obtain ⟨-, -, -, -, -, -, -, -, h8, -⟩ := hR; omega)
  unfold pB r_X2_pressureBehind r_X4_quotient
  rw [vo7, vo8, vo9, if_neg h8]
  rfl
theorem press_eq {L ru pr : Nat → Int32} {w se T : Int32} (hR : RB ru) (ep : pr (Int32.toNatClampNeg w) = L 3) (hT : 0 ≤ T.toInt ∧ T.toInt ≤ 120000) (hp : 0 ≤ (L 3).toInt ∧ (L 3).toInt ≤ 20000) : mg_X5_goOn_355 ru pr w se T = pP L ru se T := by
  have h7 : 1 ≤ (ru 7).toInt ∧ (ru 7).toInt ≤ 10000 := by obtain ⟨-, -, -, -, -, -, -, h7, -⟩ := hR; exact h7
  have e0 : (0 : Int32).toInt = 0 := rfl
  have e2 : (20000 : Int32).toInt = 20000 := rfl
  have es : (T - ru 7).toInt = T.toInt - (ru 7).toInt := subI (by omega) (by omega)
  have em : mg_X5_goOn_288 ru pr w T = pB L ru T := by
    rw [pB_val hR]
    unfold mg_X5_goOn_288 mg_X5_goOn_319
    rw [ep]
    by_cases c : T ≤ ru 7
    · have c' := (tI_le _ _).mp c
      rw [if_pos c, if_pos (show (T - ru 7) ≤ 0 from (tI_le _ _).mpr (by omega))]
    · have c' : ¬ T.toInt ≤ (ru 7).toInt := fun z => c ((tI_le _ _).mpr z)
      rw [if_neg c, if_neg (show ¬ (T - ru 7) ≤ 0 from fun z => by have := (tI_le _ _).mp z; omega)]
      by_cases d : (L 3) + ((T - ru 7) / (ru 8)) < 20000
      · have d' := (tI_lt _ _).mp d
        rw [if_pos d, if_pos (show (L 3) + ((T - ru 7) / (ru 8)) ≤ 20000 from (tI_le _ _).mpr (by omega))]
      · have d' : ¬ ((L 3) + ((T - ru 7) / (ru 8))).toInt < (20000 : Int32).toInt := fun z => d ((tI_lt _ _).mpr z)
        rw [if_neg d]
        by_cases f : (L 3) + ((T - ru 7) / (ru 8)) ≤ 20000
        · rw [if_pos f]
          have := (tI_le _ _).mp f
          exact (tI_eq _ _).mpr (by omega)
        · rw [if_neg f]
  unfold mg_X5_goOn_355 pP
  rw [em]
  by_cases c : se < pB L ru T
  · have c' := (tI_lt _ _).mp c
    rw [if_pos c, if_pos ((tI_le _ _).mpr (by omega))]
  · have c' : ¬ se.toInt < (pB L ru T).toInt := fun z => c ((tI_lt _ _).mpr z)
    rw [if_neg c]
    by_cases f : se ≤ pB L ru T
    · rw [if_pos f]
      have := (tI_le _ _).mp f
      exact (tI_eq _ _).mpr (by omega)
    · rw [if_neg f]
theorem pP_bd {L ru : Nat → Int32} {se T : Int32} (hR : RB ru) (hp : 0 ≤ (L 3).toInt ∧ (L 3).toInt ≤ 20000) (hse : 0 ≤ se.toInt ∧ se.toInt ≤ 5000) : 0 ≤ (pP L ru se T).toInt ∧ (pP L ru se T).toInt ≤ 20000 := by
  have h9 : 1 ≤ (ru 9).toInt ∧ (ru 9).toInt ≤ 500 := by obtain ⟨-, -, -, -, -, -, -, -, -, h9, -⟩ := hR; exact h9
  have e2 : (20000 : Int32).toInt = 20000 := rfl
  have hm : (pB L ru T).toInt ≤ 20000 := by
    rw [pB_val hR]
    split
    · rw [subI (by omega) (by omega)]; omega
    · by_cases d : (L 3) + ((T - ru 7) / (ru 8)) < 20000
      · have d' := (tI_lt _ _).mp d
        rw [if_pos d]; omega
      · rw [if_neg d]; omega
  unfold pP
  by_cases c : se < pB L ru T
  · have c' := (tI_lt _ _).mp c
    rw [if_pos c]; omega
  · rw [if_neg c]; omega
theorem tT_bd {Y L G I ru : Nat → Int32} {sh : Int32} (hY : SH Y) (hR : RB ru) (hG : GB G ru) (hI : GB I ru) (hp : 0 ≤ (L 3).toInt ∧ (L 3).toInt ≤ 20000) (g0 : G 0 = Y 0 * Y 1 - innr (Y 0) (Y 1)) (i0 : I 0 = innr (Y 0) (Y 1)) : 0 ≤ (tT L G I ru sh).toInt ∧ (tT L G I ru sh).toInt ≤ 120000 := by
  have hc := cnt_bd hY
  rw [← g0, ← i0] at hc
  have hf := hR.1
  have a1 := pass_gave (sh := sh) (mi := L 2) hR hG hp
  have a2 := pass_gave (sh := sh) (mi := L 2) hR hI hp
  have k1 := (pass_keep (B := G) (sh := sh) (p := L 3) (mi := L 2) hR).1
  have k2 := (pass_keep (B := I) (sh := sh) (p := L 3) (mi := L 2) hR).1
  unfold tT
  rw [k1, k2]
  generalize q_X0_passMinute_G G ru sh (L 3) (L 2) 3 = x at a1 ⊢
  generalize q_X0_passMinute_G I ru sh (L 3) (L 2) 3 = y at a2 ⊢
  have m1 := mul_bd (x := x.toInt) (y := (G 0).toInt) (a := 5000) (b := (G 0).toInt) a1.1 (by omega) hc.1 (Int.le_refl _)
  have m2 := mul_bd (x := y.toInt) (y := (I 0).toInt) (a := 5000) (b := (I 0).toInt) a2.1 (by omega) hc.2.1 (Int.le_refl _)
  have e1 : (x * G 0).toInt = x.toInt * (G 0).toInt := mulI (by omega) (by omega)
  have e2 : (y * I 0).toInt = y.toInt * (I 0).toInt := mulI (by omega) (by omega)
  rw [addI (by omega) (by omega), e1, e2]
  omega
theorem min_rel {Y ru ic wm ga fe dr mn pr hg al sd L G I : Nat → Int32} {w sh se : Int32} (hw : w = 0 ∨ w = 1) (hY : SH Y) (hR : RB ru) (hsh : -600 ≤ sh.toInt ∧ sh.toInt ≤ 400) (hse : 0 ≤ se.toInt ∧ se.toInt ≤ 5000) (h : LREL Y w ru ic wm ga fe dr mn pr hg al sd L G I) (hlt : (L 2).toInt < 2000) :
    LREL Y w ru (q_X5_goOn_ic Y ru ic wm ga fe dr mn pr hg al sd w sh se) (q_X5_goOn_wm Y ru ic wm ga fe dr mn pr hg al sd w sh se) (q_X5_goOn_ga Y ru ic wm ga fe dr mn pr hg al sd w sh se) (q_X5_goOn_fe Y ru ic wm ga fe dr mn pr hg al sd w sh se) (q_X5_goOn_dr Y ru ic wm ga fe dr mn pr hg al sd w sh se) (q_X5_goOn_mn Y ru ic wm ga fe dr mn pr hg al sd w sh se) (q_X5_goOn_pr Y ru ic wm ga fe dr mn pr hg al sd w sh se) (q_X5_goOn_hg Y ru ic wm ga fe dr mn pr hg al sd w sh se) (q_X5_goOn_al Y ru ic wm ga fe dr mn pr hg al sd w sh se) (q_X5_goOn_sd Y ru ic wm ga fe dr mn pr hg al sd w sh se)
      (q_X2_passMinute_L L G I ru sh se) (q_X2_passMinute_G L G ru sh) (q_X2_passMinute_I L I ru sh) := by
  obtain ⟨hS, ⟨e2, e3, e4, e5, e6⟩, ⟨g0, i0, g1, i1, g5, i5⟩, hG, hI, hp, hm, ha, hz⟩ := h
  obtain ⟨hN1, hN2, hNe⟩ := nv_bd hY
  have hl := goOn_loop (sh := sh) (se := se) (hg := hg) (al := al) (sd := sd) (G := G) (I := I) (p := L 3) (mi := L 2) hw hY hR hG hI hsh hp e3 e2 g5 i5 (fu ((Int32.toInt (r_X5_vials Y)).toNat + 1)) 0 0 ic wm ga fe dr (Nat.zero_le _) (by rw [fu_eq, hNe, nI_toInt (by omega)]; omega) (fun x hx => absurd hx (Nat.not_lt_zero x)) (fun x _ hx => hS x hx) (by rw [cR, cN, Int32.mul_zero, Int32.mul_zero]; rfl)
  have hc := cnt_all hY
  have k1 := pass_keep (B := G) (sh := sh) (p := L 3) (mi := L 2) hR
  have k2 := pass_keep (B := I) (sh := sh) (p := L 3) (mi := L 2) hR
  have eT : (q_X0_passMinute_G G ru sh (L 3) (L 2) 3) * cR Y (NV Y) + (q_X0_passMinute_G I ru sh (L 3) (L 2) 3) * cN Y (NV Y) = tT L G I ru sh := by
    unfold tT
    rw [hc.1, hc.2, k1.1, k2.1, g0, i0]
  rw [eT, nI_0] at hl
  obtain ⟨r1, r2, r3, r4, r5, r6⟩ := hl
  have hT := tT_bd (L := L) (sh := sh) hY hR hG hI hp g0 i0
  have hpe := press_eq (w := w) (se := se) hR e3 hT hp
  have e1 : (1 : Int32).toInt = 1 := rfl
  refine ⟨?_, ⟨?_, ?_, ?_, ?_, ?_⟩, ⟨?_, ?_, ?_, ?_, ?_, ?_⟩, ?_, ?_, ?_, ?_, ?_, ?_⟩
  · exact r1
  · show q_X5_goOn_mn Y ru ic wm ga fe dr mn pr hg al sd w sh se (Int32.toNatClampNeg w) = (L 2) + 1
    unfold q_X5_goOn_mn
    rw [r2, pk_us, e2]
  · show q_X5_goOn_pr Y ru ic wm ga fe dr mn pr hg al sd w sh se (Int32.toNatClampNeg w) = pP L ru se (tT L G I ru sh)
    unfold q_X5_goOn_pr
    rw [r3, pk_us, hpe]
  · show q_X5_goOn_hg Y ru ic wm ga fe dr mn pr hg al sd w sh se (Int32.toNatClampNeg w) = (if (L 4) < (pP L ru se (tT L G I ru sh)) then (pP L ru se (tT L G I ru sh)) else (L 4))
    unfold q_X5_goOn_hg
    rw [r4, pk_us]
    unfold mg_X5_goOn_382
    rw [pk_us, hpe, e4]
    by_cases c : (L 4) < (pP L ru se (tT L G I ru sh))
    · have c' := (tI_lt _ _).mp c
      rw [if_pos c, if_neg (fun z => by have := (tI_le _ _).mp z; omega)]
    · have c' : ¬ (L 4).toInt < (pP L ru se (tT L G I ru sh)).toInt := fun z => c ((tI_lt _ _).mpr z)
      rw [if_neg c, if_pos ((tI_le _ _).mpr (by omega))]
  · show q_X5_goOn_al Y ru ic wm ga fe dr mn pr hg al sd w sh se (Int32.toNatClampNeg w) = tT L G I ru sh
    unfold q_X5_goOn_al
    rw [r5, pk_us]
  · show q_X5_goOn_sd Y ru ic wm ga fe dr mn pr hg al sd w sh se (Int32.toNatClampNeg w) = (L 6) + (tT L G I ru sh)
    unfold q_X5_goOn_sd
    rw [r6, pk_us, e6]
  · exact k1.1.trans g0
  · exact k2.1.trans i0
  · exact k1.2.1.trans g1
  · exact k2.2.1.trans i1
  · exact k1.2.2.trans g5
  · exact k2.2.2.trans i5
  · exact pass_GB hR hG hp hm.1
  · exact pass_GB hR hI hp hm.1
  · exact pP_bd hR hp hse
  · show 0 ≤ ((L 2) + 1).toInt ∧ ((L 2) + 1).toInt ≤ 2000
    rw [addI (by omega) (by omega)]; omega
  · exact hT
  · intro z
    obtain ⟨z2, z4⟩ := hz (k2.1.symm.trans z)
    have := pass0 (ru := ru) (sh := sh) (p := L 3) (mi := L 2) z2
    refine ⟨?_, ?_⟩
    · show q_X0_passMinute_G I ru sh (L 3) (L 2) 2 = 0
      rw [this]; exact z2
    · show q_X0_passMinute_G I ru sh (L 3) (L 2) 4 = (-6)
      rw [this]; exact z4
/-- vials with ice -/
theorem wet_loop {Y ic G I : Nat → Int32} {w : Int32} (hY : SH Y) (hS : ∀ x, x < NV Y → ic (kx w x) = gsel Y G I x 2) : ∀ (n j : Nat) (ct : Int32), j ≤ NV Y → NV Y - j < n → ct = (if G 2 ≤ 0 then 0 else 1) * cR Y j + (if I 2 ≤ 0 then 0 else 1) * cN Y j → lr_X5_wetOf_4 Y ic w n ct (nI j) = (if G 2 ≤ 0 then 0 else 1) * cR Y (NV Y) + (if I 2 ≤ 0 then 0 else 1) * cN Y (NV Y) := by
  obtain ⟨hN1, hN2, hNe⟩ := nv_bd hY
  intro n
  induction n with
  | zero => intro j ct _ h; exact absurd h (Nat.not_lt_zero _)
  | succ n ih =>
    intro j ct hj hn hc
    rw [lr_X5_wetOf_4]
    by_cases c1 : r_X5_vials Y ≤ nI j
    · rw [if_pos c1]
      have hjN : j = NV Y := by
        rw [hNe] at c1
        have := (nI_leI (by omega) (by omega)).mp c1
        omega
      rw [hc, hjN]
    · rw [if_neg c1, nI_1]
      have hjN : j < NV Y := by
        rcases Nat.lt_or_ge j (NV Y) with q | q
        · exact q
        · exact absurd (by rw [hNe]; exact nI_le q (by omega)) c1
      refine ih (j + 1) _ (by omega) (by omega) ?_
      rw [← sum_step, hc]
      congr 1
      unfold mg_X5_wetOf_24
      have := hS j hjN
      unfold kx gsel at this
      rw [this]
      by_cases q : r_X5_isRim Y (nI j) = 0
      · rw [if_pos q, if_pos q]
      · rw [if_neg q, if_neg q]
theorem wet_eq {Y ic G I : Nat → Int32} {w : Int32} (hY : SH Y) (hS : ∀ x, x < NV Y → ic (kx w x) = gsel Y G I x 2) (g0 : G 0 = Y 0 * Y 1 - innr (Y 0) (Y 1)) (i0 : I 0 = innr (Y 0) (Y 1)) : r_X5_wetOf Y ic w = r_X2_vialsWithIce G I := by
  obtain ⟨hN1, hN2, hNe⟩ := nv_bd hY
  have := wet_loop (w := w) hY hS (fu ((Int32.toInt (r_X5_vials Y)).toNat + 1)) 0 0 (Nat.zero_le _) (by rw [fu_eq, hNe, nI_toInt (by omega)]; omega) (by rw [cR, cN, Int32.mul_zero, Int32.mul_zero]; rfl)
  unfold r_X5_wetOf r_X2_vialsWithIce mg_X2_vialsWithIce_7 mg_X2_vialsWithIce_28
  rw [nI_0] at this
  rw [this, (cnt_all hY).1, (cnt_all hY).2, ← g0, ← i0]
  congr 1
  · split
    · exact Int32.zero_mul
    · exact Int32.one_mul _
  · split
    · exact Int32.zero_mul
    · exact Int32.one_mul _
