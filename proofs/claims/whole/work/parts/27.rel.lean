/-! the class and the reference, call by call -/
def REL (X R L G I L2 G2 I2 o1 o2 o3 Y ru ic wm ga fe dr mn pr hg al sd on ot we tr : Nat → Int32) : Prop :=
  (R = ru ∧ RB ru ∧ SH Y) ∧ (X 4 = Y 0 ∧ X 5 = Y 1 ∧ X 6 = Y 4 ∧ X 7 = Y 5 ∧ X 8 = Y 3 ∧ X 9 = Y 19) ∧ ((-600 ≤ (Y 4).toInt ∧ (Y 4).toInt ≤ 400) ∧ (0 ≤ (Y 5).toInt ∧ (Y 5).toInt ≤ 5000)) ∧ (mn 0 = L 2 ∧ 0 ≤ (L 2).toInt ∧ (L 2).toInt ≤ 2000)
  ∧ (¬ Y 3 = 0 → LREL Y 0 ru ic wm ga fe dr mn pr hg al sd L G I) ∧ ((∀ j, 1 ≤ j → o1 j = on j) ∧ (∀ j, 1 ≤ j → o2 j = ot j) ∧ o3 = we) ∧ (¬ Y 19 = 0 → TREL tr L2 G2 I2)
theorem wi {v a b : Int32} {a' b' : Int64} (ha : a.toInt = a'.toInt) (hb : b.toInt = b'.toInt) : r_X4_within v a b = r_X5_in (Int32.toInt64 v) a' b' := by
  have h1 := wit (v := v) (a := a) (b := b)
  have h2 := win (v := v) (a := a') (b := b')
  rw [ha, hb] at h1
  rcases b_X4_within v a b with e1 | e1 <;> rcases b_X5_in (Int32.toInt64 v) a' b' with e2 | e2 <;> rw [e1, e2]
  · have := h1.mpr (h2.mp (by rw [e2]; decide)); exact absurd e1 this
  · have := h2.mpr (h1.mp (by rw [e1]; decide)); exact absurd e2 this
theorem LREL_Y {Y Y' : Nat → Int32} {w : Int32} {ru ic wm ga fe dr mn pr hg al sd L G I : Nat → Int32} (e0 : Y' 0 = Y 0) (e1 : Y' 1 = Y 1) (h : LREL Y w ru ic wm ga fe dr mn pr hg al sd L G I) : LREL Y' w ru ic wm ga fe dr mn pr hg al sd L G I := by
  have eN : NV Y' = NV Y := by unfold NV; rw [e0, e1]
  have eR : ∀ k, r_X5_isRim Y' k = r_X5_isRim Y k := fun k => by unfold r_X5_isRim; rw [e0, e1]
  obtain ⟨hS, h2, ⟨g0, i0, g1, i1, g5, i5⟩, h4⟩ := h
  refine ⟨fun x hx => ?_, h2, ⟨by rw [e0, e1]; exact g0, by rw [e0, e1]; exact i0, g1, by rw [e1]; exact i1, g5, i5⟩, h4⟩
  rw [eN] at hx
  have := hS x hx
  unfold SHW gsel at this ⊢
  rw [eR]; exact this
theorem rule_tab : ∀ j : Nat, j < 11 → fLEAST j = r_X5_leastOf (nI j) ∧ fMOST j = r_X5_mostOf (nI j) := by decide +kernel
theorem RB_iff (ru : Nat → Int32) : RB ru ↔ ∀ j, j < 11 → (fLEAST j).toInt ≤ (ru j).toInt ∧ (ru j).toInt ≤ (fMOST j).toInt := by
  constructor
  · intro h j hj
    obtain ⟨h0, h1, h2, h3, h4, h5, h6, h7, h8, h9, h10⟩ := h
    rcases (by omega : j = 0 ∨ j = 1 ∨ j = 2 ∨ j = 3 ∨ j = 4 ∨ j = 5 ∨ j = 6 ∨ j = 7 ∨ j = 8 ∨ j = 9 ∨ j = 10) with rfl | rfl | rfl | rfl | rfl | rfl | rfl | rfl | rfl | rfl | rfl
    · exact h0
    · exact h1
    · exact h2
    · exact h3
    · exact h4
    · exact h5
    · exact h6
    · exact h7
    · exact h8
    · exact h9
    · exact h10
  · intro h
    exact ⟨h 0 (by omega), h 1 (by omega), h 2 (by omega), h 3 (by omega), h 4 (by omega), h 5 (by omega), h 6 (by omega), h 7 (by omega), h 8 (by omega), h 9 (by omega), h 10 (by omega)⟩
theorem ite4 {a b c d : Prop} [Decidable a] [Decidable b] [Decidable c] [Decidable d] : (if a then (1 : Int32) else if b then 1 else if c then 1 else if d then 1 else 0) = (if a then 1 else if c then 1 else if b then 1 else if d then 1 else 0) := by
  by_cases ha : a <;> by_cases hb : b <;> by_cases hc : c <;> simp [ha, hb, hc]
theorem rim_same {X Y : Nat → Int32} (e4 : X 4 = Y 0) (e5 : X 5 = Y 1) (hc : ¬ Y 1 = 0) (k : Int32) : r_X4_isAtRim X k = r_X5_isRim Y k := by
  unfold r_X4_isAtRim r_X5_isRim r_X4_quotient
  rw [e4, e5, if_neg hc]
  exact ite4
theorem kx0 (j : Nat) : kx 0 j = Int32.toNatClampNeg (nI j) := by
  unfold kx
  rw [show ((24 : Int32) * 0) = 0 from by decide, Int32.zero_add]
section OPS
variable {X R L G I L2 G2 I2 o1 o2 o3 Y ru ic wm ga fe dr mn pr hg al sd on ot we tr : Nat → Int32}
theorem op_shelf {rw_ cl : Int32} (h : REL X R L G I L2 G2 I2 o1 o2 o3 Y ru ic wm ga fe dr mn pr hg al sd on ot we tr) : r_X4_shelf X rw_ cl = r_X5_shelf Y rw_ cl ∧ REL (q_X4_shelf_X X rw_ cl) R L G I L2 G2 I2 o1 o2 o3 (q_X5_shelf_Y Y rw_ cl) ru ic wm ga fe dr mn pr hg al sd on ot we tr := by
  obtain ⟨⟨hR, hB, hY⟩, ⟨x4, x5, x6, x7, x8, x9⟩, hb, hm, hl, ho, ht⟩ := id h
  unfold r_X4_shelf q_X4_shelf_X r_X5_shelf q_X5_shelf_Y
  rw [wi (a' := 1) (b' := 4) rfl rfl, wi (a' := 1) (b' := 6) rfl rfl, x8]
  by_cases c1 : r_X5_in (Int32.toInt64 rw_) 1 4 = 0
  · simp only [if_pos c1]; exact ⟨trivial, h⟩
  · by_cases c2 : r_X5_in (Int32.toInt64 cl) 1 6 = 0
    · simp only [if_neg c1, if_pos c2]; exact ⟨trivial, h⟩
    · by_cases c3 : Y 3 = 0
      · simp only [if_neg c1, if_neg c2, if_pos c3]
        exact ⟨rfl, ⟨hR, hB, win.mp c1, win.mp c2⟩, ⟨rfl, rfl, x6, x7, rfl, x9⟩, hb, hm, fun z => absurd c3 z, ho, ht⟩
      · simp only [if_neg c1, if_neg c2, if_neg c3]; exact ⟨trivial, h⟩
theorem op_rule {k v : Int32} (h : REL X R L G I L2 G2 I2 o1 o2 o3 Y ru ic wm ga fe dr mn pr hg al sd on ot we tr) : r_X4_rule X R k v = r_X5_rule Y ru k v ∧ REL X (q_X4_rule_R X R k v) L G I L2 G2 I2 o1 o2 o3 Y (q_X5_rule_ru Y ru k v) ic wm ga fe dr mn pr hg al sd on ot we tr := by
  obtain ⟨⟨hR, hB, hY⟩, ⟨x4, x5, x6, x7, x8, x9⟩, hb, hm, hl, ho, ht⟩ := id h
  subst hR
  unfold r_X4_rule q_X4_rule_R r_X5_rule q_X5_rule_ru
  have e1 : r_X3_has k = r_X5_in (Int32.toInt64 k) 0 10 := wi rfl rfl
  rw [e1, x8]
  by_cases c1 : r_X5_in (Int32.toInt64 k) 0 10 = 0
  · simp only [if_pos c1]; exact ⟨trivial, h⟩
  · have hin := in_rule c1
    obtain ⟨j, hj, ek⟩ := vp_in_of hin (by decide)
    have ecl : Int32.toNatClampNeg k = j := by rw [ek]; exact nI_clamp (by omega)
    have htab := rule_tab j hj
    rw [← ek] at htab
    have ew : r_X4_within v (fLEAST (Int32.toNatClampNeg k)) (fMOST (Int32.toNatClampNeg k)) = r_X5_in (Int32.toInt64 v) (Int32.toInt64 (r_X5_leastOf k)) (Int32.toInt64 (r_X5_mostOf k)) := by
      rw [ecl, htab.1, htab.2]
      exact wi (Int32.toInt_toInt64 _).symm (Int32.toInt_toInt64 _).symm
    have ea : (r_X3_allows k v = 0) ↔ (r_X5_in (Int32.toInt64 v) (Int32.toInt64 (r_X5_leastOf k)) (Int32.toInt64 (r_X5_mostOf k)) = 0) := by
      unfold r_X3_allows
      rw [e1, if_neg c1, ew]
      constructor
      · intro z
        by_cases q : r_X5_in (Int32.toInt64 v) (Int32.toInt64 (r_X5_leastOf k)) (Int32.toInt64 (r_X5_mostOf k)) = 0
        · exact q
        · rw [if_neg q] at z; exact absurd z (by decide)
      · intro z; rw [if_pos z]
    by_cases c2 : r_X5_in (Int32.toInt64 v) (Int32.toInt64 (r_X5_leastOf k)) (Int32.toInt64 (r_X5_mostOf k)) = 0
    · simp only [if_neg c1, if_pos (ea.mpr c2), if_pos c2]; exact ⟨trivial, h⟩
    · have c2' : ¬ r_X3_allows k v = 0 := fun z => c2 (ea.mp z)
      by_cases c3 : Y 3 = 0
      · simp only [if_neg c1, if_neg c2', if_neg c2, if_pos c3]
        have e2 : r_X3_valueOf R k = R (Int32.toNatClampNeg k) := by unfold r_X3_valueOf; rw [e1, if_neg c1]
        have e3 : r_X3_change R k v = R (Int32.toNatClampNeg k) := by unfold r_X3_change; rw [e2, ite_self]
        have e4 : q_X3_change_R R k v = upd R (Int32.toNatClampNeg k) v := by unfold q_X3_change_R; rw [if_neg c2']
        rw [e3, e4]
        refine ⟨rfl, ⟨rfl, (RB_iff _).mpr (fun i hi => ?_), hY⟩, ⟨x4, x5, x6, x7, x8, x9⟩, hb, hm, fun z => absurd c3 z, ho, ht⟩
        by_cases q : i = j
        · rw [q, ecl, pk_us, htab.1, htab.2]
          have := win.mp c2
          rw [Int32.toInt_toInt64, Int32.toInt_toInt64] at this
          exact this
        · rw [ecl, pk_un q]
          exact (RB_iff _).mp hB i hi
      · simp only [if_neg c1, if_neg c2', if_neg c2, if_neg c3]; exact ⟨trivial, h⟩
theorem op_vapour {t : Int32} : r_X4_vapour t = r_X5_vapour t := by
  unfold r_X4_vapour r_X5_vapour
  rw [wi (a' := -600) (b' := 0) rfl rfl, vap_eq]
theorem op_steam {t dd p0 : Int32} (h : REL X R L G I L2 G2 I2 o1 o2 o3 Y ru ic wm ga fe dr mn pr hg al sd on ot we tr) : r_X4_steam R t dd p0 = r_X5_steam ru t dd p0 := by
  obtain ⟨⟨hR, hB, hY⟩, -⟩ := h
  subst hR
  unfold r_X4_steam r_X5_steam
  rw [wi (a' := -600) (b' := 0) rfl rfl, wi (a' := 0) (b' := 100) rfl rfl, wi (a' := 0) (b' := 20000) rfl rfl]
  by_cases c2 : r_X5_in (Int32.toInt64 dd) 0 100 = 0
  · simp only [if_pos c2]
  · simp only [if_neg c2]
    rw [steam_eq (bars_st hB c2)]
    rfl
theorem op_rim {k : Int32} (h : REL X R L G I L2 G2 I2 o1 o2 o3 Y ru ic wm ga fe dr mn pr hg al sd on ot we tr) : r_X4_rim X k = r_X5_rim Y k := by
  obtain ⟨⟨hR, hB, hY⟩, ⟨x4, x5, x6, x7, x8, x9⟩, -⟩ := h
  unfold r_X4_rim r_X5_rim
  have ep : r_X4_places X = r_X5_vials Y := by unfold r_X4_places r_X5_vials; rw [x4, x5]
  rw [ep, wi (a' := 0) (b' := Int32.toInt64 ((r_X5_vials Y) - 1)) rfl (Int32.toInt_toInt64 _).symm, rim_same x4 x5 (sh_hc hY)]
theorem op_warm {t : Int32} (h : REL X R L G I L2 G2 I2 o1 o2 o3 Y ru ic wm ga fe dr mn pr hg al sd on ot we tr) : r_X4_warm X t = r_X5_warm Y t ∧ REL (q_X4_warm_X X t) R L G I L2 G2 I2 o1 o2 o3 (q_X5_warm_Y Y t) ru ic wm ga fe dr mn pr hg al sd on ot we tr := by
  obtain ⟨⟨hR, hB, hY⟩, ⟨x4, x5, x6, x7, x8, x9⟩, hb, hm, hl, ho, ht⟩ := id h
  unfold r_X4_warm q_X4_warm_X r_X5_warm q_X5_warm_Y
  rw [wi (a' := -600) (b' := 400) rfl rfl, x6]
  by_cases c1 : r_X5_in (Int32.toInt64 t) (-600) 400 = 0
  · simp only [if_pos c1]; exact ⟨trivial, h⟩
  · simp only [if_neg c1]
    exact ⟨trivial, ⟨hR, hB, hY⟩, ⟨x4, x5, rfl, x7, x8, x9⟩, ⟨in_t c1, hb.2⟩, hm, fun z => LREL_Y rfl rfl (hl z), ho, ht⟩
theorem op_set {p0 : Int32} (h : REL X R L G I L2 G2 I2 o1 o2 o3 Y ru ic wm ga fe dr mn pr hg al sd on ot we tr) : r_X4_set X p0 = r_X5_set Y p0 ∧ REL (q_X4_set_X X p0) R L G I L2 G2 I2 o1 o2 o3 (q_X5_set_Y Y p0) ru ic wm ga fe dr mn pr hg al sd on ot we tr := by
  obtain ⟨⟨hR, hB, hY⟩, ⟨x4, x5, x6, x7, x8, x9⟩, hb, hm, hl, ho, ht⟩ := id h
  unfold r_X4_set q_X4_set_X r_X5_set q_X5_set_Y
  rw [wi (a' := 0) (b' := 5000) rfl rfl, x7]
  by_cases c1 : r_X5_in (Int32.toInt64 p0) 0 5000 = 0
  · simp only [if_pos c1]; exact ⟨trivial, h⟩
  · simp only [if_neg c1]
    exact ⟨trivial, ⟨hR, hB, hY⟩, ⟨x4, x5, x6, rfl, x8, x9⟩, ⟨hb.1, in_p0 c1⟩, hm, fun z => LREL_Y rfl rfl (hl z), ho, ht⟩
theorem op_unload (h : REL X R L G I L2 G2 I2 o1 o2 o3 Y ru ic wm ga fe dr mn pr hg al sd on ot we tr) : r_X4_unload X G I = r_X5_unload Y ic ∧ REL (q_X4_unload_X X) R L G I L2 G2 I2 o1 o2 o3 (q_X5_unload_Y Y) ru ic wm ga fe dr mn pr hg al sd on ot we tr := by
  obtain ⟨⟨hR, hB, hY⟩, ⟨x4, x5, x6, x7, x8, x9⟩, hb, hm, hl, ho, ht⟩ := id h
  unfold r_X4_unload q_X4_unload_X r_X5_unload q_X5_unload_Y
  rw [x8]
  by_cases c1 : Y 3 = 0
  · simp only [if_pos c1]; exact ⟨trivial, h⟩
  · simp only [if_neg c1]
    have hl2 := LREL_Y (Y' := y21 (Y 0) (Y 1) 0 (Y 4) (Y 5) (Y 19)) rfl rfl (hl c1)
    refine ⟨?_, ⟨hR, hB, hY⟩, ⟨x4, x5, x6, x7, rfl, x9⟩, hb, hm, fun z => absurd rfl z, ho, ht⟩
    exact (wet_eq (Y := y21 (Y 0) (Y 1) 0 (Y 4) (Y 5) (Y 19)) (w := 0) hY (fun x hx => (hl2.1 x hx).1) hl2.2.2.1.1 hl2.2.2.1.2.1).symm
theorem op_firstFallen (h : REL X R L G I L2 G2 I2 o1 o2 o3 Y ru ic wm ga fe dr mn pr hg al sd on ot we tr) : r_X4_firstFallen X G I = r_X5_firstFallen Y fe := by
  obtain ⟨⟨hR, hB, hY⟩, ⟨x4, x5, x6, x7, x8, x9⟩, hb, hm, hl, ho, ht⟩ := id h
  unfold r_X4_firstFallen r_X5_firstFallen
  rw [x8]
  by_cases c1 : Y 3 = 0
  · simp only [if_pos c1]
  · simp only [if_neg c1]
    exact (first_eq hY (hl c1)).symm
theorem op_gauge {mi wh : Int32} (h : REL X R L G I L2 G2 I2 o1 o2 o3 Y ru ic wm ga fe dr mn pr hg al sd on ot we tr) : r_X4_gauge X L o1 o2 mi wh = r_X5_gauge Y mn on ot mi wh := by
  obtain ⟨⟨hR, hB, hY⟩, ⟨x4, x5, x6, x7, x8, x9⟩, hb, hm, hl, ho, ht⟩ := id h
  unfold r_X4_gauge r_X5_gauge
  rw [x8, hm.1, wi (a' := 1) (b' := Int32.toInt64 (L 2)) rfl (Int32.toInt_toInt64 _).symm]
  by_cases c1 : Y 3 = 0
  · simp only [if_pos c1]
  · by_cases c2 : r_X5_in (Int32.toInt64 mi) 1 (Int32.toInt64 (L 2)) = 0
    · simp only [if_neg c1, if_pos c2]
    · simp only [if_neg c1, if_neg c2]
      have hw := win.mp c2
      rw [Int32.toInt_toInt64] at hw
      have e1 : (1 : Int64).toInt = 1 := rfl
      have e0 : (0 : Int32).toInt = 0 := rfl
      have e2 : (2000 : Int32).toInt = 2000 := rfl
      have e11 : (1 : Int32).toInt = 1 := rfl
      have hh : ¬ r_X1_holds mi = 0 := wit.mpr (by omega)
      have hj : 1 ≤ Int32.toNatClampNeg mi := by show 1 ≤ mi.toInt.toNat; omega
      have k1 : r_X1_oneAt o1 mi = on (Int32.toNatClampNeg mi) := by unfold r_X1_oneAt; rw [if_neg hh]; exact ho.1 _ hj
      have k2 : r_X1_otherAt o2 mi = ot (Int32.toNatClampNeg mi) := by unfold r_X1_otherAt; rw [if_neg hh]; exact ho.2.1 _ hj
      rw [k1, k2]
      by_cases d0 : wh = 0
      · rw [if_pos d0, if_pos d0, if_neg (wit.mpr (by rw [d0]; decide))]
      · rw [if_neg d0, if_neg d0]
        by_cases d1 : wh = 1
        · rw [if_pos d1, if_neg (wit.mpr (by rw [d1]; decide))]
        · rw [if_neg d1]
          have : r_X4_within wh 0 1 = 0 := by
            rcases b_X4_within wh 0 1 with z | z
            · exact z
            · have := wit.mp (show ¬ r_X4_within wh 0 1 = 0 by rw [z]; decide)
              exfalso
              rcases (by omega : wh.toInt = 0 ∨ wh.toInt = 1) with q | q
              · exact d0 ((tI_eq _ _).mpr q)
              · exact d1 ((tI_eq _ _).mpr q)
          rw [if_pos this]
theorem op_wet {mi : Int32} (h : REL X R L G I L2 G2 I2 o1 o2 o3 Y ru ic wm ga fe dr mn pr hg al sd on ot we tr) : r_X4_wet X L o3 mi = r_X5_wet Y mn we mi := by
  obtain ⟨⟨hR, hB, hY⟩, ⟨x4, x5, x6, x7, x8, x9⟩, hb, hm, hl, ho, ht⟩ := id h
  unfold r_X4_wet r_X5_wet
  rw [x8, hm.1, wi (a' := 0) (b' := Int32.toInt64 (L 2)) rfl (Int32.toInt_toInt64 _).symm, ho.2.2]
  by_cases c1 : Y 3 = 0
  · simp only [if_pos c1]
  · by_cases c2 : r_X5_in (Int32.toInt64 mi) 0 (Int32.toInt64 (L 2)) = 0
    · simp only [if_neg c1, if_pos c2]
    · simp only [if_neg c1, if_neg c2]
      have hw := win.mp c2
      rw [Int32.toInt_toInt64] at hw
      have e1 : (0 : Int64).toInt = 0 := rfl
      have e0 : (0 : Int32).toInt = 0 := rfl
      have e2 : (2000 : Int32).toInt = 2000 := rfl
      unfold r_X1_withIceAt
      rw [if_neg (show ¬ r_X1_holds mi = 0 from wit.mpr (by omega))]
theorem op_tried {k : Int32} (h : REL X R L G I L2 G2 I2 o1 o2 o3 Y ru ic wm ga fe dr mn pr hg al sd on ot we tr) : r_X4_tried X L2 G2 I2 k = r_X5_tried Y tr k := by
  obtain ⟨⟨hR, hB, hY⟩, ⟨x4, x5, x6, x7, x8, x9⟩, hb, hm, hl, ho, ht⟩ := id h
  unfold r_X4_tried r_X5_tried
  rw [wi (a' := 0) (b' := 4) rfl rfl, x9]
  by_cases c1 : r_X5_in (Int32.toInt64 k) 0 4 = 0
  · simp only [if_pos c1]
  · by_cases c2 : Y 19 = 0
    · simp only [if_neg c1, if_pos c2]
    · simp only [if_neg c1, if_neg c2]
      obtain ⟨t0, t1, t2, t3, t4⟩ := ht c2
      obtain ⟨j, hj, ek⟩ := vp_in_of (in_tried c1) (by decide)
      subst ek
      rw [nI_clamp (by omega)]
      rcases (by omega : j = 0 ∨ j = 1 ∨ j = 2 ∨ j = 3 ∨ j = 4) with rfl | rfl | rfl | rfl | rfl
      · rw [if_pos (by decide), t0]
      · rw [if_neg (by decide), if_pos (by decide), t1]
      · rw [if_neg (by decide), if_neg (by decide), if_pos (by decide), t2]
      · rw [if_neg (by decide), if_neg (by decide), if_neg (by decide), if_pos (by decide), t3]
      · rw [if_neg (by decide), if_neg (by decide), if_neg (by decide), if_neg (by decide), t4]
end OPS
