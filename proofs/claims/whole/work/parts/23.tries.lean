/-! a trial of the reference and of the class, side by side -/
def TREL (tr L G I : Nat → Int32) : Prop := tr 0 = L 2 ∧ tr 1 = r_X2_firstVialToFall G I ∧ tr 2 = (if (mg_X2_firstToFall_9 G I) = 0 then G 4 else I 4) ∧ tr 3 = L 4 ∧ tr 4 = r_X2_vialsWithIce G I
def TEE (Y X ic wm ga fe dr mn pr hg al sd : Nat → Int32) (r5 r4 : Int32) (Y' ic' wm' ga' fe' dr' mn' pr' hg' al' sd' tr' X' L' G' I' : Nat → Int32) : Prop := r5 = r4 ∧ Y' = y21 (Y 0) (Y 1) (Y 3) (Y 4) (Y 5) 1 ∧ X' = x10 (X 4) (X 5) (X 6) (X 7) (X 8) 1 ∧ KEEP0 ic wm ga fe dr mn pr hg al sd ic' wm' ga' fe' dr' mn' pr' hg' al' sd' ∧ TREL tr' L' G' I'
theorem KEEP0.rf {ic wm ga fe dr mn pr hg al sd : Nat → Int32} : KEEP0 ic wm ga fe dr mn pr hg al sd ic wm ga fe dr mn pr hg al sd := ⟨fun _ _ => ⟨rfl, rfl, rfl, rfl, rfl⟩, rfl, rfl, rfl, rfl, rfl⟩
theorem grp_cases {Y ru ic wm ga fe dr mn pr hg al sd L G I : Nat → Int32} {w : Int32} (hY : SH Y) (h : LREL Y w ru ic wm ga fe dr mn pr hg al sd L G I) : (1 ≤ (G 0).toInt ∧ 0 ≤ (I 0).toInt ∧ (G 0).toInt + (I 0).toInt ≤ 24) ∧ (¬ I 4 = (-6) → 1 ≤ (I 0).toInt) := by
  obtain ⟨-, -, ⟨g0, i0, -, -, -, -⟩, -, -, -, -, -, hz⟩ := h
  obtain ⟨C, -, -, -, s1, -, -⟩ := shape hY
  have hc := cnt_bd hY
  rw [← g0] at s1
  rw [← g0, ← i0] at hc
  refine ⟨by omega, fun z => ?_⟩
  by_cases y : I 0 = 0
  · exact absurd (hz y).2 z
  · have : ¬ (I 0).toInt = 0 := fun q => y ((tI_eq _ _).mpr q)
    omega
theorem fall_eq {Y ru ic wm ga fe dr mn pr hg al sd L G I : Nat → Int32} {w : Int32} (hY : SH Y) (h : LREL Y w ru ic wm ga fe dr mn pr hg al sd L G I) : (0 ≤ r_X2_firstVialToFall G I) ↔ ¬ r_X2_fallenVials G I = 0 := by
  obtain ⟨hc, hi⟩ := grp_cases hY h
  obtain ⟨-, -, ⟨-, -, g1, i1, -, -⟩, -⟩ := h
  have e0 : (0 : Int32).toInt = 0 := rfl
  have e1 : (1 : Int32).toInt = 1 := rfl
  have hY2 := hY.2
  have hI1 : (0 : Int32) ≤ I 1 := by
    rw [i1]; exact (tI_le _ _).mpr (by rw [addI (by omega) (by omega)]; omega)
  have hG1 : (0 : Int32) ≤ G 1 := by rw [g1]; decide
  unfold r_X2_firstVialToFall r_X2_fallenVials mg_X2_firstToFall_9 mg_X2_fallenVials_9 mg_X2_fallenVials_32
  by_cases a1 : I 4 = (-6)
  · by_cases a2 : G 4 = (-6)
    · rw [if_pos a1, if_pos (by decide), if_pos a2, if_pos a2, if_pos a1]; decide
    · rw [if_pos a1, if_pos (by decide), if_neg a2, if_neg a2, if_pos a1]
      exact ⟨fun _ => ne0_of (by rw [addI (by omega) (by omega)]; omega), fun _ => hG1⟩
  · have hi := hi a1
    by_cases a2 : G 4 = (-6)
    · rw [if_neg a1, if_pos a2, if_neg (by decide), if_neg a1, if_pos a2, if_neg a1]
      exact ⟨fun _ => ne0_of (by rw [addI (by omega) (by omega)]; omega), fun _ => hI1⟩
    · rw [if_neg a1, if_neg a2, if_neg a1, if_neg a2, if_neg a2, if_neg a1]
      refine ⟨fun _ => ne0_of (by rw [addI (by omega) (by omega)]; omega), fun _ => ?_⟩
      repeat' split
      all_goals first | exact hG1 | exact hI1
theorem tr2_eq {Y ru ic wm ga fe dr mn pr hg al sd L G I : Nat → Int32} (hY : SH Y) (h : LREL Y 1 ru ic wm ga fe dr mn pr hg al sd L G I) : mg_X5_tries_86 Y fe = (if (mg_X2_firstToFall_9 G I) = 0 then G 4 else I 4) := by
  obtain ⟨hN1, hN2, hNe⟩ := nv_bd hY
  obtain ⟨C, hC1, hC2, eC, -, s2, s3⟩ := shape hY
  obtain ⟨hcb, hci⟩ := grp_cases hY h
  have hfe := first_eq hY h
  obtain ⟨hS, -, ⟨g0, i0, g1, i1, -, -⟩, -⟩ := h
  have e24 : ((24 : Int32) * 1) = 24 := by decide
  have hf0 : fe (Int32.toNatClampNeg (24 + 0)) = G 4 := by
    have hh := (hS 0 (by omega)).2.2.2.1
    unfold kx gsel at hh
    rw [if_neg (fun z => by have := (s3 0 (by omega) z).1; omega), e24, nI_0] at hh
    exact hh
  have hfC : ¬ I 4 = (-6) → fe (Int32.toNatClampNeg (24 + (Y 1 + 1))) = I 4 := by
    intro z
    have hin := hci z
    rw [i0] at hin
    have hh := (hS C (s2 (by omega)).2).2.2.2.1
    unfold kx gsel at hh
    rw [if_pos (s2 (by omega)).1, e24, ← eC] at hh
    exact hh
  have hY2 := hY.2
  have e1 : (1 : Int32).toInt = 1 := rfl
  have e0 : (0 : Int32).toInt = 0 := rfl
  have hI1 : (0 : Int32) ≤ Y 1 + 1 := (tI_le _ _).mpr (by rw [addI (by omega) (by omega)]; omega)
  unfold mg_X5_tries_86
  rw [hfe]
  unfold r_X2_firstVialToFall
  rw [g1, i1]
  by_cases a : (mg_X2_firstToFall_9 G I) = 0
  · rw [if_pos a, if_pos a]
    by_cases b : G 4 = (-6)
    · rw [if_pos b, if_neg (by decide), b]
    · rw [if_neg b, if_pos (by decide), hf0]
  · rw [if_neg a, if_neg a]
    have b : ¬ I 4 = (-6) := fun z => a (by unfold mg_X2_firstToFall_9; rw [if_pos z])
    rw [if_neg b, if_pos hI1, hfC b]
theorem tries_end {Y X ru tr ic wm ga fe dr mn pr hg al sd L G I : Nat → Int32} {lf : Int32} (hY : SH Y) (h : LREL Y 1 ru ic wm ga fe dr mn pr hg al sd L G I) (hlf : lf = r_X2_vialsWithIce G I) : TEE Y X ic wm ga fe dr mn pr hg al sd (if 0 ≤ (r_X5_firstOf Y fe 1) then 0 else 1) (if (r_X2_fallenVials G I) = 0 then 1 else 0) (if 0 ≤ (r_X5_firstOf Y fe 1) then (y21 (Y 0) (Y 1) (Y 3) (Y 4) (Y 5) 1) else (y21 (Y 0) (Y 1) (Y 3) (Y 4) (Y 5) 1)) (if 0 ≤ (r_X5_firstOf Y fe 1) then ic else ic) (if 0 ≤ (r_X5_firstOf Y fe 1) then wm else wm) (if 0 ≤ (r_X5_firstOf Y fe 1) then ga else ga) (if 0 ≤ (r_X5_firstOf Y fe 1) then fe else fe) (if 0 ≤ (r_X5_firstOf Y fe 1) then dr else dr) (if 0 ≤ (r_X5_firstOf Y fe 1) then mn else mn) (if 0 ≤ (r_X5_firstOf Y fe 1) then pr else pr) (if 0 ≤ (r_X5_firstOf Y fe 1) then hg else hg) (if 0 ≤ (r_X5_firstOf Y fe 1) then al else al) (if 0 ≤ (r_X5_firstOf Y fe 1) then sd else sd) (if 0 ≤ (r_X5_firstOf Y fe 1) then (upd (upd (upd (upd (upd tr 0 (mn 1)) 1 (r_X5_firstOf Y fe 1)) 2 (mg_X5_tries_86 Y fe)) 3 (hg 1)) 4 lf) else (upd (upd (upd (upd (upd tr 0 (mn 1)) 1 (r_X5_firstOf Y fe 1)) 2 (mg_X5_tries_86 Y fe)) 3 (hg 1)) 4 lf)) (if (r_X2_fallenVials G I) = 0 then (x10 (X 4) (X 5) (X 6) (X 7) (X 8) 1) else (x10 (X 4) (X 5) (X 6) (X 7) (X 8) 1)) (if (r_X2_fallenVials G I) = 0 then L else L) (if (r_X2_fallenVials G I) = 0 then G else G) (if (r_X2_fallenVials G I) = 0 then I else I) := by
  have hfe := first_eq hY h
  have hfl := fall_eq hY h
  have ht2 := tr2_eq hY h
  have hm : mn 1 = L 2 := h.2.1.1
  have hh : hg 1 = L 4 := h.2.1.2.2.1
  simp only [ite_self]
  refine ⟨?_, rfl, rfl, KEEP0.rf, ?_⟩
  · rw [hfe]
    by_cases c : r_X2_fallenVials G I = 0
    · rw [if_pos c, if_neg (fun z => hfl.mp z c)]
    · rw [if_neg c, if_pos (hfl.mpr c)]
  · refine ⟨?_, ?_, ?_, ?_, ?_⟩
    · rw [pk_un (by decide), pk_un (by decide), pk_un (by decide), pk_un (by decide), pk_us, hm]
    · rw [pk_un (by decide), pk_un (by decide), pk_un (by decide), pk_us, hfe]
    · rw [pk_un (by decide), pk_un (by decide), pk_us, ht2]
    · rw [pk_un (by decide), pk_us, hh]
    · rw [pk_us, hlf]
theorem tries_loop {Y X ru tr : Nat → Int32} {t p0 mns : Int32} (hY : SH Y) (hR : RB ru) (ht : -600 ≤ t.toInt ∧ t.toInt ≤ 400) (hp0 : 0 ≤ p0.toInt ∧ p0.toInt ≤ 5000) (hmns : mns.toInt ≤ 100) : ∀ (n : Nat) (lf i : Int32) (ic wm ga fe dr mn pr hg al sd L G I : Nat → Int32), LREL Y 1 ru ic wm ga fe dr mn pr hg al sd L G I → lf = r_X2_vialsWithIce G I → ((mn 1).toInt = i.toInt ∧ 0 ≤ i.toInt) → (mns.toInt - i.toInt).toNat < n →
    TEE Y X ic wm ga fe dr mn pr hg al sd (lr_X5_tries_16 Y ru tr t p0 mns n lf i ic wm ga fe dr mn pr hg al sd) (lr_X4_noneFalls_23 X ru t p0 mns n i L G I) (lq_X5_tries_16_Y Y ru tr t p0 mns n lf i ic wm ga fe dr mn pr hg al sd) (lq_X5_tries_16_ic Y ru tr t p0 mns n lf i ic wm ga fe dr mn pr hg al sd) (lq_X5_tries_16_wm Y ru tr t p0 mns n lf i ic wm ga fe dr mn pr hg al sd) (lq_X5_tries_16_ga Y ru tr t p0 mns n lf i ic wm ga fe dr mn pr hg al sd) (lq_X5_tries_16_fe Y ru tr t p0 mns n lf i ic wm ga fe dr mn pr hg al sd) (lq_X5_tries_16_dr Y ru tr t p0 mns n lf i ic wm ga fe dr mn pr hg al sd) (lq_X5_tries_16_mn Y ru tr t p0 mns n lf i ic wm ga fe dr mn pr hg al sd) (lq_X5_tries_16_pr Y ru tr t p0 mns n lf i ic wm ga fe dr mn pr hg al sd) (lq_X5_tries_16_hg Y ru tr t p0 mns n lf i ic wm ga fe dr mn pr hg al sd) (lq_X5_tries_16_al Y ru tr t p0 mns n lf i ic wm ga fe dr mn pr hg al sd) (lq_X5_tries_16_sd Y ru tr t p0 mns n lf i ic wm ga fe dr mn pr hg al sd) (lq_X5_tries_16_tr Y ru tr t p0 mns n lf i ic wm ga fe dr mn pr hg al sd) (lq_X4_noneFalls_23_X X ru t p0 mns n i L G I) (lq_X4_noneFalls_23_L2 X ru t p0 mns n i L G I) (lq_X4_noneFalls_23_G2 X ru t p0 mns n i L G I) (lq_X4_noneFalls_23_I2 X ru t p0 mns n i L G I) := by
  intro n
  induction n with
  | zero => intro lf i ic wm ga fe dr mn pr hg al sd L G I _ _ _ h; exact absurd h (Nat.not_lt_zero _)
  | succ n ih =>
    intro lf i ic wm ga fe dr mn pr hg al sd L G I h hlf hb hn
    by_cases c1 : mns ≤ i
    · simp only [lr_X5_tries_16, lq_X5_tries_16_Y, lq_X5_tries_16_ic, lq_X5_tries_16_wm, lq_X5_tries_16_ga, lq_X5_tries_16_fe, lq_X5_tries_16_dr, lq_X5_tries_16_mn, lq_X5_tries_16_pr, lq_X5_tries_16_hg, lq_X5_tries_16_al, lq_X5_tries_16_sd, lq_X5_tries_16_tr, lr_X4_noneFalls_23, lq_X4_noneFalls_23_X, lq_X4_noneFalls_23_L2, lq_X4_noneFalls_23_G2, lq_X4_noneFalls_23_I2, if_pos c1]
      exact tries_end hY h hlf
    · by_cases c2 : lf ≤ 0
      · have c2' : r_X2_vialsWithIce G I ≤ 0 := by rw [← hlf]; exact c2
        simp only [lr_X5_tries_16, lq_X5_tries_16_Y, lq_X5_tries_16_ic, lq_X5_tries_16_wm, lq_X5_tries_16_ga, lq_X5_tries_16_fe, lq_X5_tries_16_dr, lq_X5_tries_16_mn, lq_X5_tries_16_pr, lq_X5_tries_16_hg, lq_X5_tries_16_al, lq_X5_tries_16_sd, lq_X5_tries_16_tr, lr_X4_noneFalls_23, lq_X4_noneFalls_23_X, lq_X4_noneFalls_23_L2, lq_X4_noneFalls_23_G2, lq_X4_noneFalls_23_I2, if_neg c1, if_pos c2, if_pos c2']
        exact tries_end hY h hlf
      · have c2' : ¬ r_X2_vialsWithIce G I ≤ 0 := by rw [← hlf]; exact c2
        simp only [lr_X5_tries_16, lq_X5_tries_16_Y, lq_X5_tries_16_ic, lq_X5_tries_16_wm, lq_X5_tries_16_ga, lq_X5_tries_16_fe, lq_X5_tries_16_dr, lq_X5_tries_16_mn, lq_X5_tries_16_pr, lq_X5_tries_16_hg, lq_X5_tries_16_al, lq_X5_tries_16_sd, lq_X5_tries_16_tr, lr_X4_noneFalls_23, lq_X4_noneFalls_23_X, lq_X4_noneFalls_23_L2, lq_X4_noneFalls_23_G2, lq_X4_noneFalls_23_I2, if_neg c1, if_neg c2, if_neg c2']
        have hm : mn 1 = L 2 := h.2.1.1
        have hlt := tri_lt hmns hb c1
        have hnx := mrel_next1 hY hR ht hp0 ⟨_, _, _, h⟩ hlt
        have h2 := min_rel (Or.inr rfl) hY hR ht hp0 h (by rw [← hm]; exact hlt)
        have hw := wet_eq (w := 1) hY (fun x hx => (h2.1 x hx).1) h2.2.2.1.1 h2.2.2.1.2.1
        obtain ⟨r1, r2, r3, r4, r5⟩ := ih _ (i + 1) _ _ _ _ _ _ _ _ _ _ _ _ _ h2 hw (tri_step hb hnx.2 c1) (cnt2_lt c1 hn)
        exact ⟨r1, r2, r3, (goOn_keep hY).trans r4, r5⟩
theorem tries_rel {Y X ru tr ic wm ga fe dr mn pr hg al sd : Nat → Int32} {t p0 mns : Int32} (hY : SH Y) (hR : RB ru) (ht : -600 ≤ t.toInt ∧ t.toInt ≤ 400) (hp0 : 0 ≤ p0.toInt ∧ p0.toInt ≤ 5000) (hmns : mns.toInt ≤ 100) (x4 : X 4 = Y 0) (x5 : X 5 = Y 1) :
    TEE Y X ic wm ga fe dr mn pr hg al sd (r_X5_tries Y ru ic wm ga fe dr mn pr hg al sd tr t p0 mns) (r_X4_noneFalls X ru t p0 mns) (q_X5_tries_Y Y ru ic wm ga fe dr mn pr hg al sd tr t p0 mns) (q_X5_tries_ic Y ru ic wm ga fe dr mn pr hg al sd tr t p0 mns) (q_X5_tries_wm Y ru ic wm ga fe dr mn pr hg al sd tr t p0 mns) (q_X5_tries_ga Y ru ic wm ga fe dr mn pr hg al sd tr t p0 mns) (q_X5_tries_fe Y ru ic wm ga fe dr mn pr hg al sd tr t p0 mns) (q_X5_tries_dr Y ru ic wm ga fe dr mn pr hg al sd tr t p0 mns) (q_X5_tries_mn Y ru ic wm ga fe dr mn pr hg al sd tr t p0 mns) (q_X5_tries_pr Y ru ic wm ga fe dr mn pr hg al sd tr t p0 mns) (q_X5_tries_hg Y ru ic wm ga fe dr mn pr hg al sd tr t p0 mns) (q_X5_tries_al Y ru ic wm ga fe dr mn pr hg al sd tr t p0 mns) (q_X5_tries_sd Y ru ic wm ga fe dr mn pr hg al sd tr t p0 mns) (q_X5_tries_tr Y ru ic wm ga fe dr mn pr hg al sd tr t p0 mns) (q_X4_noneFalls_X X ru t p0 mns) (q_X4_noneFalls_L2 X ru t p0 mns) (q_X4_noneFalls_G2 X ru t p0 mns) (q_X4_noneFalls_I2 X ru t p0 mns) := by
  have h := fill_rel (ic := ic) (wm := wm) (ga := ga) (fe := fe) (dr := dr) (mn := mn) (pr := pr) (hg := hg) (al := al) (sd := sd) (w := 1) (Or.inr rfl) hY hR hp0
  have hf := mrel_fill1 ic wm ga fe dr mn pr hg al sd hY hR hp0
  have hw := wet_eq (w := 1) hY (fun x hx => (h.1 x hx).1) h.2.2.1.1 h.2.2.1.2.1
  have e0 : (0 : Int32).toInt = 0 := rfl
  have hl := tries_loop (X := X) (tr := tr) hY hR ht hp0 hmns (fu ((Int32.toInt mns).toNat + 1)) _ 0 _ _ _ _ _ _ _ _ _ _ _ _ _ h hw ⟨hf.2, by decide⟩ (by rw [fu_eq]; omega)
  obtain ⟨r1, r2, r3, r4, r5⟩ := hl
  unfold r_X4_noneFalls q_X4_noneFalls_X q_X4_noneFalls_L2 q_X4_noneFalls_G2 q_X4_noneFalls_I2
  rw [x4, x5]
  exact ⟨r1, r2, r3, fill_keep.trans r4, r5⟩
