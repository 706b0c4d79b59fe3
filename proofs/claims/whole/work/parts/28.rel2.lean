section OPS2
variable {X R L G I L2 G2 I2 o1 o2 o3 Y ru ic wm ga fe dr mn pr hg al sd on ot we tr : Nat → Int32}
theorem op_told {k : Int32} (h : REL X R L G I L2 G2 I2 o1 o2 o3 Y ru ic wm ga fe dr mn pr hg al sd on ot we tr) : r_X4_told X R k = r_X5_told Y ru k := by
  obtain ⟨⟨hR, hB, hY⟩, ⟨x4, x5, x6, x7, x8, x9⟩, -⟩ := h
  subst hR
  have ep : r_X4_places X = r_X5_vials Y := by unfold r_X4_places r_X5_vials; rw [x4, x5]
  have e10 : (10 : Int32).toInt = 10 := rfl
  have e0 : (0 : Int32).toInt = 0 := rfl
  have j10 : (10 : Int64).toInt = 10 := rfl
  have j20 : (20 : Int64).toInt = 20 := rfl
  unfold r_X4_told r_X5_told
  rw [x4, x5, x8, ep]
  by_cases c1 : k < 10
  · have c1' := (tI_lt _ _).mp c1
    have hz : r_X5_in (Int32.toInt64 k) 10 20 = 0 := by
      rcases b_X5_in (Int32.toInt64 k) 10 20 with z | z
      · exact z
      · have := win.mp (show ¬ r_X5_in (Int32.toInt64 k) 10 20 = 0 by rw [z]; decide); omega
    rw [if_pos c1, if_pos hz]
  · have c1' : ¬ k.toInt < 10 := fun z => c1 ((tI_lt _ _).mpr (by omega))
    have hk := rng k
    have es : (k - 10).toInt = k.toInt - 10 := by rw [subI (by omega) (by omega), e10]
    rw [if_neg c1]
    by_cases c2 : r_X5_in (Int32.toInt64 k) 10 20 = 0
    · have hz : r_X3_has (k - 10) = 0 := by
        rcases b_X3_has (k - 10) with z | z
        · exact z
        · have := wit.mp (show ¬ r_X4_within (k - 10) 0 10 = 0 by rw [show r_X4_within (k - 10) 0 10 = 1 from z]; decide)
          exact absurd c2 (win.mpr (by omega))
      rw [if_pos hz, if_pos c2]
    · have hw := win.mp c2
      have hz : ¬ r_X3_has (k - 10) = 0 := wit.mpr (by omega)
      rw [if_neg hz, if_neg c2]
      unfold r_X3_valueOf
      rw [if_neg hz]
theorem op_vial {k wh : Int32} (h : REL X R L G I L2 G2 I2 o1 o2 o3 Y ru ic wm ga fe dr mn pr hg al sd on ot we tr) : r_X4_vial X G I k wh = r_X5_vial Y ic wm ga fe dr k wh := by
  obtain ⟨⟨hR, hB, hY⟩, ⟨x4, x5, x6, x7, x8, x9⟩, hb, hm, hl, ho, ht⟩ := id h
  have ep : r_X4_places X = r_X5_vials Y := by unfold r_X4_places r_X5_vials; rw [x4, x5]
  obtain ⟨hN1, hN2, hNe⟩ := nv_bd hY
  unfold r_X4_vial r_X5_vial
  rw [x8, ep, wi (v := k) (a' := 0) (b' := Int32.toInt64 ((r_X5_vials Y) - 1)) rfl (Int32.toInt_toInt64 _).symm, rim_same x4 x5 (sh_hc hY)]
  by_cases c1 : Y 3 = 0
  · simp only [if_pos c1]
  · by_cases c2 : r_X5_in (Int32.toInt64 k) 0 (Int32.toInt64 ((r_X5_vials Y) - 1)) = 0
    · simp only [if_neg c1, if_pos c2]
    · simp only [if_neg c1, if_neg c2]
      have hw := win.mp c2
      have j0 : (0 : Int64).toInt = 0 := rfl
      have e1 : (1 : Int32).toInt = 1 := rfl
      have ev : (r_X5_vials Y).toInt = NV Y := by rw [hNe, nI_toInt (by omega)]
      rw [Int32.toInt_toInt64, subI (by omega) (by omega)] at hw
      have ek : k = nI k.toInt.toNat := (tI_eq _ _).mpr (by rw [nI_toInt (by omega)]; omega)
      obtain ⟨f2, f6, f3, f4, f7⟩ := (hl c1).1 k.toInt.toNat (by omega)
      rw [kx0, ← ek] at f2 f6 f3 f4 f7
      unfold gsel at f2 f6 f3 f4 f7
      rw [← ek] at f2 f6 f3 f4 f7
      rw [f2, f6, f3, f4, f7]
      have key : ∀ B : Nat → Int32, (if (r_X4_within wh 0 4) = 0 then (-10002) else r_X0_tell B wh) = (if wh = 0 then B 2 else (if wh = 1 then B 6 else (if wh = 2 then B 3 else (if wh = 3 then B 4 else (if wh = 4 then B 7 else (-10002)))))) := by
        intro B
        unfold r_X0_tell
        by_cases d0 : wh = 0
        · rw [if_neg (wit.mpr (by rw [d0]; decide)), if_pos d0, if_pos d0]
        · by_cases d1 : wh = 1
          · rw [if_neg (wit.mpr (by rw [d1]; decide)), if_neg d0, if_neg d0, if_pos d1, if_pos d1]
          · by_cases d2 : wh = 2
            · rw [if_neg (wit.mpr (by rw [d2]; decide)), if_neg d0, if_neg d0, if_neg d1, if_neg d1, if_pos d2, if_pos d2]
            · by_cases d3 : wh = 3
              · rw [if_neg (wit.mpr (by rw [d3]; decide)), if_neg d0, if_neg d0, if_neg d1, if_neg d1, if_neg d2, if_neg d2, if_pos d3, if_pos d3]
              · by_cases d4 : wh = 4
                · rw [if_neg (wit.mpr (by rw [d4]; decide)), if_neg d0, if_neg d0, if_neg d1, if_neg d1, if_neg d2, if_neg d2, if_neg d3, if_neg d3, if_pos d4]
                · have hz : r_X4_within wh 0 4 = 0 := by
                    rcases b_X4_within wh 0 4 with z | z
                    · exact z
                    · have := wit.mp (show ¬ r_X4_within wh 0 4 = 0 by rw [z]; decide)
                      have e0 : (0 : Int32).toInt = 0 := rfl
                      have e4 : (4 : Int32).toInt = 4 := rfl
                      exfalso
                      rcases (by omega : wh.toInt = 0 ∨ wh.toInt = 1 ∨ wh.toInt = 2 ∨ wh.toInt = 3 ∨ wh.toInt = 4) with q | q | q | q | q
                      · exact d0 ((tI_eq _ _).mpr q)
                      · exact d1 ((tI_eq _ _).mpr q)
                      · exact d2 ((tI_eq _ _).mpr q)
                      · exact d3 ((tI_eq _ _).mpr q)
                      · exact d4 ((tI_eq _ _).mpr q)
                  rw [if_pos hz, if_neg d0, if_neg d1, if_neg d2, if_neg d3, if_neg d4]
      by_cases q : r_X5_isRim Y k = 0
      · simp only [if_pos q]; exact key I
      · simp only [if_neg q]; exact key G
theorem about_loop {wh : Int32} (hY : SH Y) (hS : ∀ x, x < NV Y → ic (Int32.toNatClampNeg (nI x)) = gsel Y G I x 2 ∧ fe (Int32.toNatClampNeg (nI x)) = gsel Y G I x 4) : ∀ (n j : Nat) (su fl : Int32), j ≤ NV Y → NV Y - j < n → su = (G 2) * cR Y j + (I 2) * cN Y j → fl = (if G 4 < 0 then 0 else 1) * cR Y j + (if I 4 < 0 then 0 else 1) * cN Y j →
    lr_X5_about_58 Y ic fe mn pr hg al sd wh n su fl (nI j) = (if wh = 0 then (mn 0) else (if wh = 1 then (pr 0) else (if wh = 2 then ((G 2) * cR Y (NV Y) + (I 2) * cN Y (NV Y)) else (if wh = 3 then (sd 0) else (if wh = 4 then (al 0) else (if wh = 5 then (hg 0) else (if wh = 6 then ((if G 4 < 0 then 0 else 1) * cR Y (NV Y) + (if I 4 < 0 then 0 else 1) * cN Y (NV Y)) else ((r_X5_vials Y) - (r_X5_wetOf Y ic 0))))))))) := by
  obtain ⟨hN1, hN2, hNe⟩ := nv_bd hY
  intro n
  induction n with
  | zero => intro j su fl _ h; exact absurd h (Nat.not_lt_zero _)
  | succ n ih =>
    intro j su fl hj hn hs hf
    rw [lr_X5_about_58]
    by_cases c1 : r_X5_vials Y ≤ nI j
    · rw [if_pos c1]
      have hjN : j = NV Y := by
        rw [hNe] at c1
        have := (nI_leI (by omega) (by omega)).mp c1
        omega
      rw [hs, hf, hjN]
    · rw [if_neg c1, nI_1]
      have hjN : j < NV Y := by
        rcases Nat.lt_or_ge j (NV Y) with q | q
        · exact q
        · exact absurd (by rw [hNe]; exact nI_le q (by omega)) c1
      obtain ⟨a1, a2⟩ := hS j hjN
      unfold gsel at a1 a2
      refine ih (j + 1) _ _ (by omega) (by omega) ?_ ?_
      · rw [← sum_step, hs, a1]
        by_cases q : r_X5_isRim Y (nI j) = 0
        · simp only [if_pos q]
        · simp only [if_neg q]
      · rw [← sum_step, hf]
        unfold mg_X5_about_85
        rw [a2]
        by_cases q : r_X5_isRim Y (nI j) = 0
        · simp only [if_pos q]
        · simp only [if_neg q]
theorem op_about {wh : Int32} (h : REL X R L G I L2 G2 I2 o1 o2 o3 Y ru ic wm ga fe dr mn pr hg al sd on ot we tr) : r_X4_about X L G I wh = r_X5_about Y ic fe mn pr hg al sd wh := by
  obtain ⟨⟨hR, hB, hY⟩, ⟨x4, x5, x6, x7, x8, x9⟩, hb, hm, hl, ho, ht⟩ := id h
  obtain ⟨hN1, hN2, hNe⟩ := nv_bd hY
  have e0 : (0 : Int32).toInt = 0 := rfl
  have e7 : (7 : Int32).toInt = 7 := rfl
  have e8 : (8 : Int32).toInt = 8 := rfl
  have e9 : (9 : Int32).toInt = 9 := rfl
  have j0 : (0 : Int64).toInt = 0 := rfl
  have j9 : (9 : Int64).toInt = 9 := rfl
  unfold r_X4_about r_X5_about
  rw [wi (a' := 0) (b' := 9) rfl rfl, x6, x7, x8]
  by_cases c1 : r_X5_in (Int32.toInt64 wh) 0 9 = 0
  · rw [if_pos c1, if_pos c1]
  · rw [if_neg c1, if_neg c1]
    have hw := win.mp c1
    by_cases c2 : wh ≤ 7
    · have c2' := (tI_le _ _).mp c2
      rw [if_pos c2, if_neg (fun z => by rw [z] at c2'; exact absurd c2' (by decide)), if_neg (fun z => by rw [z] at c2'; exact absurd c2' (by decide))]
      by_cases c3 : Y 3 = 0
      · rw [if_pos c3, if_pos c3]
      · rw [if_neg c3, if_neg c3]
        have hL := hl c3
        have hwe := wet_eq (w := 0) hY (fun x hx => (hL.1 x hx).1) hL.2.2.1.1 hL.2.2.1.2.1
        have hal := about_loop (wh := wh) (mn := mn) (pr := pr) (hg := hg) (al := al) (sd := sd) (G := G) (I := I) hY (fun x hx => ⟨by rw [← kx0]; exact (hL.1 x hx).1, by rw [← kx0]; exact (hL.1 x hx).2.2.2.1⟩) (fu ((Int32.toInt (r_X5_vials Y)).toNat + 1)) 0 0 0 (Nat.zero_le _) (by rw [fu_eq, hNe, nI_toInt (by omega)]; omega) (by rw [cR, cN, Int32.mul_zero, Int32.mul_zero]; rfl) (by rw [cR, cN, Int32.mul_zero, Int32.mul_zero]; rfl)
        rw [nI_0] at hal
        rw [hal, (cnt_all hY).1, (cnt_all hY).2, hwe]
        obtain ⟨-, ⟨m2, m3, m4, m5, m6⟩, ⟨g0, i0, -, -, -, -⟩, hG, hI, -⟩ := hL
        have m2 : mn 0 = L 2 := m2
        have m3 : pr 0 = L 3 := m3
        have m4 : hg 0 = L 4 := m4
        have m5 : al 0 = L 5 := m5
        have m6 : sd 0 = L 6 := m6
        rw [← g0, ← i0, m2, m3, m4, m5, m6]
        have ev : r_X5_vials Y = G 0 + I 0 := by rw [g0, i0, Int32.sub_add_cancel]; rfl
        have ef : r_X2_fallenVials G I = (if G 4 < 0 then 0 else 1) * G 0 + (if I 4 < 0 then 0 else 1) * I 0 := by
          unfold r_X2_fallenVials mg_X2_fallenVials_9 mg_X2_fallenVials_32
          have key : ∀ B : Nat → Int32, GB B ru → (if (B 4) = (-6) then 0 else (B 0)) = (if B 4 < 0 then 0 else 1) * B 0 := by
            intro B hB
            rcases hB.2 with z | z
            · rw [if_pos z, if_pos (by rw [z]; decide), Int32.zero_mul]
            · rw [if_neg (fun y => by rw [y] at z; exact absurd z (by decide)), if_neg (fun y => by have := (tI_lt _ _).mp y; omega), Int32.one_mul]
          rw [key G hG, key I hI]
        unfold r_X2_tell
        rw [ef, ev]
    · have c2' : ¬ wh.toInt ≤ 7 := fun z => c2 ((tI_le _ _).mpr (by omega))
      rw [if_neg c2]
      by_cases d8 : wh = 8
      · rw [if_pos d8, if_pos d8]
      · have d8' : ¬ wh.toInt = 8 := fun z => d8 ((tI_eq _ _).mpr (by omega))
        rw [if_neg d8, if_neg d8, if_pos ((tI_eq _ _).mpr (by omega))]
theorem end_loop {to hd : Int32} (hhd : 1 ≤ hd.toInt ∧ hd.toInt ≤ 60) (hm : mn 0 = L 2) (hmb : (L 2).toInt ≤ 2000) (h1 : ∀ j, 1 ≤ j → o1 j = on j) (h2 : ∀ j, 1 ≤ j → o2 j = ot j) : ∀ (n : Nat) (tg mi : Int32), 1 ≤ mi.toInt → 0 ≤ tg.toInt → tg.toInt < hd.toInt → lr_X1_findEnd_6 o1 o2 (L 2) to hd n tg mi = lr_X5_end_42 mn on ot to hd n tg mi := by
  have e0 : (0 : Int32).toInt = 0 := rfl
  have e1 : (1 : Int32).toInt = 1 := rfl
  have e2 : (2000 : Int32).toInt = 2000 := rfl
  intro n
  induction n with
  | zero => intro tg mi _ _ _; rfl
  | succ n ih =>
    intro tg mi hmi ht0 ht1
    rw [lr_X1_findEnd_6, lr_X5_end_42, hm]
    by_cases c1 : L 2 < mi
    · rw [if_pos c1, if_pos c1]
    · have c1' : ¬ (L 2).toInt < mi.toInt := fun z => c1 ((tI_lt _ _).mpr z)
      rw [if_neg c1, if_neg c1]
      have hh : ¬ r_X1_holds mi = 0 := wit.mpr (by omega)
      have hj : 1 ≤ Int32.toNatClampNeg mi := by show 1 ≤ mi.toInt.toNat; omega
      have em : mg_X1_findEnd_26 o1 o2 to tg mi = mg_X5_end_69 on ot to tg mi := by
        unfold mg_X1_findEnd_26 mg_X5_end_69 r_X1_otherAt r_X1_oneAt
        rw [if_neg hh, if_neg hh, h1 _ hj, h2 _ hj]
      rw [em]
      have hb : 0 ≤ (mg_X5_end_69 on ot to tg mi).toInt ∧ (mg_X5_end_69 on ot to tg mi).toInt ≤ hd.toInt := by
        unfold mg_X5_end_69
        split
        · omega
        · rw [addI (by omega) (by omega)]; omega
      by_cases c2 : mg_X5_end_69 on ot to tg mi < hd
      · have c2' := (tI_lt _ _).mp c2
        rw [if_pos c2, if_neg (fun z => by rw [z] at c2'; omega)]
        exact ih _ _ (inc_end hmb hmi c1) hb.1 c2'
      · have c2' : ¬ (mg_X5_end_69 on ot to tg mi).toInt < hd.toInt := fun z => c2 ((tI_lt _ _).mpr z)
        rw [if_neg c2, if_pos ((tI_eq _ _).mpr (by omega))]
theorem op_end {to hd : Int32} (h : REL X R L G I L2 G2 I2 o1 o2 o3 Y ru ic wm ga fe dr mn pr hg al sd on ot we tr) : r_X4_end X L o1 o2 to hd = r_X5_end Y mn on ot to hd := by
  obtain ⟨⟨hR, hB, hY⟩, ⟨x4, x5, x6, x7, x8, x9⟩, hb, hm, hl, ho, ht⟩ := id h
  unfold r_X4_end r_X5_end r_X1_findEnd
  rw [wi (a' := 0) (b' := 100) rfl rfl, wi (a' := 1) (b' := 60) rfl rfl, x8]
  by_cases c2 : r_X5_in (Int32.toInt64 hd) 1 60 = 0
  · simp only [if_pos c2]
  · have hw := win.mp c2
    have j1 : (1 : Int64).toInt = 1 := rfl
    have j6 : (60 : Int64).toInt = 60 := rfl
    have e0 : (0 : Int32).toInt = 0 := rfl
    rw [hm.1, end_loop (mn := mn) (on := on) (ot := ot) (by omega) hm.1 hm.2.2 ho.1 ho.2.1 _ 0 1 (by decide) (by decide) (by omega)]
end OPS2
