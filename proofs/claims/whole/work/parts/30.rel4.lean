section OPS4
variable {X R L G I L2 G2 I2 o1 o2 o3 Y ru ic wm ga fe dr mn pr hg al sd on ot we tr : Nat → Int32}
theorem rel_tries {t p0 mns : Int32} (h : REL X R L G I L2 G2 I2 o1 o2 o3 Y ru ic wm ga fe dr mn pr hg al sd on ot we tr) (ht : -600 ≤ t.toInt ∧ t.toInt ≤ 400) (hp0 : 0 ≤ p0.toInt ∧ p0.toInt ≤ 5000) (hmns : mns.toInt ≤ 100) : r_X4_noneFalls X R t p0 mns = r_X5_tries Y ru ic wm ga fe dr mn pr hg al sd tr t p0 mns ∧ REL (q_X4_noneFalls_X X R t p0 mns) R L G I (q_X4_noneFalls_L2 X R t p0 mns) (q_X4_noneFalls_G2 X R t p0 mns) (q_X4_noneFalls_I2 X R t p0 mns) o1 o2 o3 (q_X5_tries_Y Y ru ic wm ga fe dr mn pr hg al sd tr t p0 mns) ru (q_X5_tries_ic Y ru ic wm ga fe dr mn pr hg al sd tr t p0 mns) (q_X5_tries_wm Y ru ic wm ga fe dr mn pr hg al sd tr t p0 mns) (q_X5_tries_ga Y ru ic wm ga fe dr mn pr hg al sd tr t p0 mns) (q_X5_tries_fe Y ru ic wm ga fe dr mn pr hg al sd tr t p0 mns) (q_X5_tries_dr Y ru ic wm ga fe dr mn pr hg al sd tr t p0 mns) (q_X5_tries_mn Y ru ic wm ga fe dr mn pr hg al sd tr t p0 mns) (q_X5_tries_pr Y ru ic wm ga fe dr mn pr hg al sd tr t p0 mns) (q_X5_tries_hg Y ru ic wm ga fe dr mn pr hg al sd tr t p0 mns) (q_X5_tries_al Y ru ic wm ga fe dr mn pr hg al sd tr t p0 mns) (q_X5_tries_sd Y ru ic wm ga fe dr mn pr hg al sd tr t p0 mns) on ot we (q_X5_tries_tr Y ru ic wm ga fe dr mn pr hg al sd tr t p0 mns) := by
  obtain ⟨⟨hR, hB, hY⟩, ⟨x4, x5, x6, x7, x8, x9⟩, hb, hm, hl, ho, hto⟩ := id h
  subst hR
  obtain ⟨r1, r2, r3, r4, r5⟩ := tries_rel (X := X) (tr := tr) (ic := ic) (wm := wm) (ga := ga) (fe := fe) (dr := dr) (mn := mn) (pr := pr) (hg := hg) (al := al) (sd := sd) hY hB ht hp0 hmns x4 x5
  refine ⟨r1.symm, ?_⟩
  rw [r2, r3]
  exact ⟨⟨rfl, hB, hY⟩, ⟨x4, x5, x6, x7, x8, rfl⟩, hb, ⟨r4.2.1.trans hm.1, hm.2⟩, fun z => LREL_Y rfl rfl (LREL_keep hY r4 (hl z)), ho, fun _ => r5⟩
theorem op_trial {t p0 mns : Int32} (h : REL X R L G I L2 G2 I2 o1 o2 o3 Y ru ic wm ga fe dr mn pr hg al sd on ot we tr) : r_X4_trial X R t p0 mns = r_X5_trial Y ru ic wm ga fe dr mn pr hg al sd tr t p0 mns ∧ REL (q_X4_trial_X X R t p0 mns) R L G I (q_X4_trial_L2 X R L2 t p0 mns) (q_X4_trial_G2 X R G2 t p0 mns) (q_X4_trial_I2 X R I2 t p0 mns) o1 o2 o3 (q_X5_trial_Y Y ru ic wm ga fe dr mn pr hg al sd tr t p0 mns) ru (q_X5_trial_ic Y ru ic wm ga fe dr mn pr hg al sd tr t p0 mns) (q_X5_trial_wm Y ru ic wm ga fe dr mn pr hg al sd tr t p0 mns) (q_X5_trial_ga Y ru ic wm ga fe dr mn pr hg al sd tr t p0 mns) (q_X5_trial_fe Y ru ic wm ga fe dr mn pr hg al sd tr t p0 mns) (q_X5_trial_dr Y ru ic wm ga fe dr mn pr hg al sd tr t p0 mns) (q_X5_trial_mn Y ru ic wm ga fe dr mn pr hg al sd tr t p0 mns) (q_X5_trial_pr Y ru ic wm ga fe dr mn pr hg al sd tr t p0 mns) (q_X5_trial_hg Y ru ic wm ga fe dr mn pr hg al sd tr t p0 mns) (q_X5_trial_al Y ru ic wm ga fe dr mn pr hg al sd tr t p0 mns) (q_X5_trial_sd Y ru ic wm ga fe dr mn pr hg al sd tr t p0 mns) on ot we (q_X5_trial_tr Y ru ic wm ga fe dr mn pr hg al sd tr t p0 mns) := by
  unfold r_X4_trial q_X4_trial_X q_X4_trial_L2 q_X4_trial_G2 q_X4_trial_I2 r_X4_isMapped r_X5_trial q_X5_trial_Y q_X5_trial_ic q_X5_trial_wm q_X5_trial_ga q_X5_trial_fe q_X5_trial_dr q_X5_trial_mn q_X5_trial_pr q_X5_trial_hg q_X5_trial_al q_X5_trial_sd q_X5_trial_tr mg_X5_trial_11
  rw [wi (v := t) (a' := -600) (b' := 400) rfl rfl, wi (v := p0) (a' := 0) (b' := 5000) rfl rfl, wi (v := mns) (a' := 1) (b' := 100) rfl rfl]
  have z0 : (0 : Int32) = 0 := rfl
  have z1 : ¬ (1 : Int32) = 0 := by decide
  by_cases c1 : r_X5_in (Int32.toInt64 t) (-600) 400 = 0
  · simp only [if_pos c1, if_pos z0, if_true]; exact ⟨trivial, h⟩
  · by_cases c2 : r_X5_in (Int32.toInt64 p0) 0 5000 = 0
    · simp only [if_neg c1, if_pos c2, if_pos z0, if_true]; exact ⟨trivial, h⟩
    · by_cases c3 : r_X5_in (Int32.toInt64 mns) 1 100 = 0
      · simp only [if_neg c1, if_neg c2, if_pos c3, if_pos z0, if_true]; exact ⟨trivial, h⟩
      · simp only [if_neg c1, if_neg c2, if_neg c3, if_neg z1, ite_self]
        obtain ⟨r1, r2⟩ := rel_tries h (in_t c1) (in_p0 c2) (in_mns c3)
        refine ⟨?_, r2⟩
        rw [← r1]
        rcases b_X4_noneFalls X R t p0 mns with z | z
        · rw [z]; rfl
        · rw [z]; rfl
theorem edge_loop {p0 mns : Int32} (hp0 : 0 ≤ p0.toInt ∧ p0.toInt ≤ 5000) (hmns : mns.toInt ≤ 100) : ∀ (n : Nat) (sf t : Int32) (X L2 G2 I2 Y ic wm ga fe dr mn pr hg al sd tr : Nat → Int32), REL X R L G I L2 G2 I2 o1 o2 o3 Y ru ic wm ga fe dr mn pr hg al sd on ot we tr → ((-600 ≤ t.toInt ∧ t.toInt ≤ 450) ∧ (t.toInt + 600) % 50 = 0) → sf = (if t = (-600) then (-10000) else (t - 50)) → (450 - t.toInt).toNat < n →
    lr_X4_edge_21 R p0 mns n sf t X L2 G2 I2 = lr_X5_edge_32 ru p0 mns n t Y ic wm ga fe dr mn pr hg al sd tr ∧ REL (lq_X4_edge_21_X R p0 mns n sf t X L2 G2 I2) R L G I (lq_X4_edge_21_L2 R p0 mns n sf t X L2 G2 I2) (lq_X4_edge_21_G2 R p0 mns n sf t X L2 G2 I2) (lq_X4_edge_21_I2 R p0 mns n sf t X L2 G2 I2) o1 o2 o3 (lq_X5_edge_32_Y ru p0 mns n t Y ic wm ga fe dr mn pr hg al sd tr) ru (lq_X5_edge_32_ic ru p0 mns n t Y ic wm ga fe dr mn pr hg al sd tr) (lq_X5_edge_32_wm ru p0 mns n t Y ic wm ga fe dr mn pr hg al sd tr) (lq_X5_edge_32_ga ru p0 mns n t Y ic wm ga fe dr mn pr hg al sd tr) (lq_X5_edge_32_fe ru p0 mns n t Y ic wm ga fe dr mn pr hg al sd tr) (lq_X5_edge_32_dr ru p0 mns n t Y ic wm ga fe dr mn pr hg al sd tr) (lq_X5_edge_32_mn ru p0 mns n t Y ic wm ga fe dr mn pr hg al sd tr) (lq_X5_edge_32_pr ru p0 mns n t Y ic wm ga fe dr mn pr hg al sd tr) (lq_X5_edge_32_hg ru p0 mns n t Y ic wm ga fe dr mn pr hg al sd tr) (lq_X5_edge_32_al ru p0 mns n t Y ic wm ga fe dr mn pr hg al sd tr) (lq_X5_edge_32_sd ru p0 mns n t Y ic wm ga fe dr mn pr hg al sd tr) on ot we (lq_X5_edge_32_tr ru p0 mns n t Y ic wm ga fe dr mn pr hg al sd tr) := by
  have e4 : (400 : Int32).toInt = 400 := rfl
  have e5 : (50 : Int32).toInt = 50 := rfl
  have e6 : ((-600 : Int32)).toInt = -600 := rfl
  intro n
  induction n with
  | zero => intro sf t X L2 G2 I2 Y ic wm ga fe dr mn pr hg al sd tr _ _ _ h; exact absurd h (Nat.not_lt_zero _)
  | succ n ih =>
    intro sf t X L2 G2 I2 Y ic wm ga fe dr mn pr hg al sd tr h hb hsf hn
    by_cases c1 : 400 < t
    · have c1' := (tI_lt _ _).mp c1
      simp only [lr_X4_edge_21, lq_X4_edge_21_X, lq_X4_edge_21_L2, lq_X4_edge_21_G2, lq_X4_edge_21_I2, lr_X5_edge_32, lq_X5_edge_32_Y, lq_X5_edge_32_ic, lq_X5_edge_32_wm, lq_X5_edge_32_ga, lq_X5_edge_32_fe, lq_X5_edge_32_dr, lq_X5_edge_32_mn, lq_X5_edge_32_pr, lq_X5_edge_32_hg, lq_X5_edge_32_al, lq_X5_edge_32_sd, lq_X5_edge_32_tr, if_pos c1]
      refine ⟨?_, h⟩
      have et : t.toInt = 450 := by omega
      rw [hsf, if_neg (fun z => by rw [z] at et; omega)]
      exact (tI_eq _ _).mpr (by rw [subI (by omega) (by omega)]; omega)
    · have hle := le400 hb.1.1 c1
      obtain ⟨r1, r2⟩ := rel_tries h hle hp0 hmns
      by_cases c2 : r_X4_noneFalls X R t p0 mns = 0
      · have c2' : r_X5_tries Y ru ic wm ga fe dr mn pr hg al sd tr t p0 mns = 0 := r1.symm.trans c2
        simp only [lr_X4_edge_21, lq_X4_edge_21_X, lq_X4_edge_21_L2, lq_X4_edge_21_G2, lq_X4_edge_21_I2, lr_X5_edge_32, lq_X5_edge_32_Y, lq_X5_edge_32_ic, lq_X5_edge_32_wm, lq_X5_edge_32_ga, lq_X5_edge_32_fe, lq_X5_edge_32_dr, lq_X5_edge_32_mn, lq_X5_edge_32_pr, lq_X5_edge_32_hg, lq_X5_edge_32_al, lq_X5_edge_32_sd, lq_X5_edge_32_tr, if_neg c1, if_pos c2, if_pos c2', ite_self]
        exact ⟨hsf, r2⟩
      · have c2' : ¬ r_X5_tries Y ru ic wm ga fe dr mn pr hg al sd tr t p0 mns = 0 := fun z => c2 (r1.trans z)
        simp only [lr_X4_edge_21, lq_X4_edge_21_X, lq_X4_edge_21_L2, lq_X4_edge_21_G2, lq_X4_edge_21_I2, lr_X5_edge_32, lq_X5_edge_32_Y, lq_X5_edge_32_ic, lq_X5_edge_32_wm, lq_X5_edge_32_ga, lq_X5_edge_32_fe, lq_X5_edge_32_dr, lq_X5_edge_32_mn, lq_X5_edge_32_pr, lq_X5_edge_32_hg, lq_X5_edge_32_al, lq_X5_edge_32_sd, lq_X5_edge_32_tr, if_neg c1, if_neg c2, if_neg c2']
        have e1 : (t + 50).toInt = t.toInt + 50 := by rw [addI (by omega) (by omega), e5]
        refine ih t (t + 50) (q_X4_noneFalls_X X R t p0 mns) (q_X4_noneFalls_L2 X R t p0 mns) (q_X4_noneFalls_G2 X R t p0 mns) (q_X4_noneFalls_I2 X R t p0 mns) (q_X5_tries_Y Y ru ic wm ga fe dr mn pr hg al sd tr t p0 mns) (q_X5_tries_ic Y ru ic wm ga fe dr mn pr hg al sd tr t p0 mns) (q_X5_tries_wm Y ru ic wm ga fe dr mn pr hg al sd tr t p0 mns) (q_X5_tries_ga Y ru ic wm ga fe dr mn pr hg al sd tr t p0 mns) (q_X5_tries_fe Y ru ic wm ga fe dr mn pr hg al sd tr t p0 mns) (q_X5_tries_dr Y ru ic wm ga fe dr mn pr hg al sd tr t p0 mns) (q_X5_tries_mn Y ru ic wm ga fe dr mn pr hg al sd tr t p0 mns) (q_X5_tries_pr Y ru ic wm ga fe dr mn pr hg al sd tr t p0 mns) (q_X5_tries_hg Y ru ic wm ga fe dr mn pr hg al sd tr t p0 mns) (q_X5_tries_al Y ru ic wm ga fe dr mn pr hg al sd tr t p0 mns) (q_X5_tries_sd Y ru ic wm ga fe dr mn pr hg al sd tr t p0 mns) (q_X5_tries_tr Y ru ic wm ga fe dr mn pr hg al sd tr t p0 mns) r2 (by rw [e1]; omega) ?_ (cnt3_lt c1 hn)
        rw [if_neg (fun z => by rw [z] at e1; omega)]
        exact (tI_eq _ _).mpr (by rw [subI (by omega) (by omega), e1]; omega)
theorem op_edge {p0 mns : Int32} (h : REL X R L G I L2 G2 I2 o1 o2 o3 Y ru ic wm ga fe dr mn pr hg al sd on ot we tr) : r_X4_edge X R L2 G2 I2 p0 mns = r_X5_edge Y ru ic wm ga fe dr mn pr hg al sd tr p0 mns ∧ REL (q_X4_edge_X X R L2 G2 I2 p0 mns) R L G I (q_X4_edge_L2 X R L2 G2 I2 p0 mns) (q_X4_edge_G2 X R L2 G2 I2 p0 mns) (q_X4_edge_I2 X R L2 G2 I2 p0 mns) o1 o2 o3 (q_X5_edge_Y Y ru ic wm ga fe dr mn pr hg al sd tr p0 mns) ru (q_X5_edge_ic Y ru ic wm ga fe dr mn pr hg al sd tr p0 mns) (q_X5_edge_wm Y ru ic wm ga fe dr mn pr hg al sd tr p0 mns) (q_X5_edge_ga Y ru ic wm ga fe dr mn pr hg al sd tr p0 mns) (q_X5_edge_fe Y ru ic wm ga fe dr mn pr hg al sd tr p0 mns) (q_X5_edge_dr Y ru ic wm ga fe dr mn pr hg al sd tr p0 mns) (q_X5_edge_mn Y ru ic wm ga fe dr mn pr hg al sd tr p0 mns) (q_X5_edge_pr Y ru ic wm ga fe dr mn pr hg al sd tr p0 mns) (q_X5_edge_hg Y ru ic wm ga fe dr mn pr hg al sd tr p0 mns) (q_X5_edge_al Y ru ic wm ga fe dr mn pr hg al sd tr p0 mns) (q_X5_edge_sd Y ru ic wm ga fe dr mn pr hg al sd tr p0 mns) on ot we (q_X5_edge_tr Y ru ic wm ga fe dr mn pr hg al sd tr p0 mns) := by
  unfold r_X4_edge q_X4_edge_X q_X4_edge_L2 q_X4_edge_G2 q_X4_edge_I2 r_X4_isMapped r_X5_edge q_X5_edge_Y q_X5_edge_ic q_X5_edge_wm q_X5_edge_ga q_X5_edge_fe q_X5_edge_dr q_X5_edge_mn q_X5_edge_pr q_X5_edge_hg q_X5_edge_al q_X5_edge_sd q_X5_edge_tr
  rw [wi (v := p0) (a' := 0) (b' := 5000) rfl rfl, wi (v := mns) (a' := 1) (b' := 100) rfl rfl]
  have z0 : (0 : Int32) = 0 := rfl
  have z1 : ¬ (1 : Int32) = 0 := by decide
  by_cases c2 : r_X5_in (Int32.toInt64 p0) 0 5000 = 0
  · simp only [if_pos c2, if_pos z0, if_true]; exact ⟨trivial, h⟩
  · by_cases c3 : r_X5_in (Int32.toInt64 mns) 1 100 = 0
    · simp only [if_neg c2, if_pos c3, if_pos z0, if_true]; exact ⟨trivial, h⟩
    · simp only [if_neg c2, if_neg c3, if_neg z1]
      exact edge_loop (in_p0 c2) (in_mns c3) (fu 1051) (-10000) (-600) X L2 G2 I2 Y ic wm ga fe dr mn pr hg al sd tr h (by decide) (by decide) (by rw [fu_eq]; decide)
end OPS4
