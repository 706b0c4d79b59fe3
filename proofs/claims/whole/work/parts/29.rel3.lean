section OPS3
variable {X R L G I L2 G2 I2 o1 o2 o3 Y ru ic wm ga fe dr mn pr hg al sd on ot we tr : Nat → Int32}
theorem start_wet (hY : SH Y) (hR : RB ru) : r_X2_vialsWithIce (q_X2_start_G ru (Y 0) (Y 1)) (q_X2_start_I ru (Y 0) (Y 1)) = r_X5_vials Y := by
  obtain ⟨C, -, -, -, s1, -, -⟩ := shape hY
  have hc := cnt_bd hY
  have hf := hR.1
  have e0 : (0 : Int32).toInt = 0 := rfl
  unfold r_X2_vialsWithIce mg_X2_vialsWithIce_7 mg_X2_vialsWithIce_28
  show (if mg_X0_fill_17 (((Y 0) * (Y 1)) - innr (Y 0) (Y 1)) (r_X3_valueOf ru 0) ≤ 0 then 0 else ((Y 0) * (Y 1)) - innr (Y 0) (Y 1)) + (if mg_X0_fill_17 (innr (Y 0) (Y 1)) (r_X3_valueOf ru 0) ≤ 0 then 0 else innr (Y 0) (Y 1)) = (Y 0) * (Y 1)
  unfold mg_X0_fill_17
  rw [vo0, if_neg (show ¬ ((Y 0) * (Y 1)) - innr (Y 0) (Y 1) ≤ 0 from fun z => by have := (tI_le _ _).mp z; omega), if_neg (show ¬ ru 0 ≤ 0 from fun z => by have := (tI_le _ _).mp z; omega)]
  by_cases c : innr (Y 0) (Y 1) ≤ 0
  · have c' := (tI_le _ _).mp c
    have ez : innr (Y 0) (Y 1) = 0 := (tI_eq _ _).mpr (by omega)
    rw [if_pos c, if_pos (by decide), ez, Int32.add_zero, Int32.sub_zero]
  · rw [if_neg c, if_neg (show ¬ ru 0 ≤ 0 from fun z => by have := (tI_le _ _).mp z; omega), Int32.sub_add_cancel]
theorem holds_ok {m : Int32} (h : 0 ≤ m.toInt ∧ m.toInt ≤ 2000) : ¬ r_X1_holds m = 0 := wit.mpr (by have e0 : (0 : Int32).toInt = 0 := rfl; have e2 : (2000 : Int32).toInt = 2000 := rfl; omega)
theorem op_load (h : REL X R L G I L2 G2 I2 o1 o2 o3 Y ru ic wm ga fe dr mn pr hg al sd on ot we tr) : r_X4_load X = r_X5_load Y ∧ REL (q_X4_load_X X) R (q_X4_load_L X L) (q_X4_load_G X R G) (q_X4_load_I X R I) L2 G2 I2 (q_X4_load_o1 X o1) (q_X4_load_o2 X R o2) (q_X4_load_o3 X R o3) (q_X5_load_Y Y) ru (q_X5_load_ic Y ru ic wm ga fe dr mn pr hg al sd) (q_X5_load_wm Y ru ic wm ga fe dr mn pr hg al sd) (q_X5_load_ga Y ru ic wm ga fe dr mn pr hg al sd) (q_X5_load_fe Y ru ic wm ga fe dr mn pr hg al sd) (q_X5_load_dr Y ru ic wm ga fe dr mn pr hg al sd) (q_X5_load_mn Y ru ic wm ga fe dr mn pr hg al sd) (q_X5_load_pr Y ru ic wm ga fe dr mn pr hg al sd) (q_X5_load_hg Y ru ic wm ga fe dr mn pr hg al sd) (q_X5_load_al Y ru ic wm ga fe dr mn pr hg al sd) (q_X5_load_sd Y ru ic wm ga fe dr mn pr hg al sd) on ot (q_X5_load_we Y we) tr := by
  obtain ⟨⟨hR, hB, hY⟩, ⟨x4, x5, x6, x7, x8, x9⟩, hb, hm, hl, ho, ht⟩ := id h
  subst hR
  unfold r_X4_load q_X4_load_X q_X4_load_L q_X4_load_G q_X4_load_I q_X4_load_o1 q_X4_load_o2 q_X4_load_o3 r_X5_load q_X5_load_Y q_X5_load_ic q_X5_load_wm q_X5_load_ga q_X5_load_fe q_X5_load_dr q_X5_load_mn q_X5_load_pr q_X5_load_hg q_X5_load_al q_X5_load_sd q_X5_load_we
  rw [x8]
  by_cases c1 : Y 3 = 0
  · simp only [if_pos c1]
    rw [x4, x5, x6, x7, x9]
    have hf := fill_rel (ru := R) (ic := ic) (wm := wm) (ga := ga) (fe := fe) (dr := dr) (mn := mn) (pr := pr) (hg := hg) (al := al) (sd := sd) (w := 0) (Or.inl rfl) hY hB hb.2
    have hf2 := LREL_Y (Y' := y21 (Y 0) (Y 1) 1 (Y 4) (Y 5) (Y 19)) rfl rfl hf
    have hm0 := hf.2.1.1
    rw [show Int32.toNatClampNeg (0 : Int32) = 0 from rfl] at hm0
    have hh : ¬ r_X1_holds (q_X2_start_L (Y 5) 2) = 0 := holds_ok (m := q_X2_start_L (Y 5) 2) (by show 0 ≤ (0 : Int32).toInt ∧ (0 : Int32).toInt ≤ 2000; decide)
    refine ⟨rfl, ⟨rfl, hB, hY⟩, ⟨rfl, rfl, rfl, rfl, rfl, rfl⟩, hb, ⟨hm0, by show 0 ≤ (0 : Int32).toInt ∧ (0 : Int32).toInt ≤ 2000; decide⟩, fun _ => hf2, ⟨?_, ?_, ?_⟩, ht⟩
    · intro j hj
      unfold q_X1_note_o1
      rw [if_neg hh, pk_un (show j ≠ Int32.toNatClampNeg (q_X2_start_L (Y 5) 2) from fun z => by rw [show Int32.toNatClampNeg (q_X2_start_L (Y 5) 2) = 0 from rfl] at z; omega)]
      exact ho.1 j hj
    · intro j hj
      unfold q_X1_note_o2
      rw [if_neg hh, pk_un (show j ≠ Int32.toNatClampNeg (q_X2_start_L (Y 5) 2) from fun z => by rw [show Int32.toNatClampNeg (q_X2_start_L (Y 5) 2) = 0 from rfl] at z; omega)]
      exact ho.2.1 j hj
    · unfold q_X1_note_o3
      rw [if_neg hh, start_wet hY hB, ho.2.2, show Int32.toNatClampNeg (q_X2_start_L (Y 5) 2) = 0 from rfl]
      rfl
  · simp only [if_neg c1]; exact ⟨trivial, h⟩
def RREL (Y ru ic wm ga fe dr mn pr hg al sd on ot we L G I o1 o2 o3 : Nat → Int32) : Prop := LREL Y 0 ru ic wm ga fe dr mn pr hg al sd L G I ∧ (∀ j, 1 ≤ j → o1 j = on j) ∧ (∀ j, 1 ≤ j → o2 j = ot j) ∧ o3 = we
theorem run_loop {nn : Int32} (hY : SH Y) (hR : RB ru) (x6 : X 6 = Y 4) (x7 : X 7 = Y 5) (hwm : -600 ≤ (Y 4).toInt ∧ (Y 4).toInt ≤ 400) (hps : 0 ≤ (Y 5).toInt ∧ (Y 5).toInt ≤ 5000) : ∀ (n : Nat) (i : Int32) (ic wm ga fe dr mn pr hg al sd on ot we L G I o1 o2 o3 : Nat → Int32), RREL Y ru ic wm ga fe dr mn pr hg al sd on ot we L G I o1 o2 o3 → ((mn 0).toInt + (nn.toInt - i.toInt) ≤ 2000 ∧ 0 ≤ i.toInt) → (nn.toInt - i.toInt).toNat < n →
    lr_X4_run_41 X ru nn n i L G I o1 o2 o3 = lr_X5_run_41 Y ru nn n i ic wm ga fe dr mn pr hg al sd on ot we ∧ RREL Y ru (lq_X5_run_41_ic Y ru nn n i ic wm ga fe dr mn pr hg al sd on ot we) (lq_X5_run_41_wm Y ru nn n i ic wm ga fe dr mn pr hg al sd on ot we) (lq_X5_run_41_ga Y ru nn n i ic wm ga fe dr mn pr hg al sd on ot we) (lq_X5_run_41_fe Y ru nn n i ic wm ga fe dr mn pr hg al sd on ot we) (lq_X5_run_41_dr Y ru nn n i ic wm ga fe dr mn pr hg al sd on ot we) (lq_X5_run_41_mn Y ru nn n i ic wm ga fe dr mn pr hg al sd on ot we) (lq_X5_run_41_pr Y ru nn n i ic wm ga fe dr mn pr hg al sd on ot we) (lq_X5_run_41_hg Y ru nn n i ic wm ga fe dr mn pr hg al sd on ot we) (lq_X5_run_41_al Y ru nn n i ic wm ga fe dr mn pr hg al sd on ot we) (lq_X5_run_41_sd Y ru nn n i ic wm ga fe dr mn pr hg al sd on ot we) (lq_X5_run_41_on Y ru nn n i ic wm ga fe dr mn pr hg al sd on ot we) (lq_X5_run_41_ot Y ru nn n i ic wm ga fe dr mn pr hg al sd on ot we) (lq_X5_run_41_we Y ru nn n i ic wm ga fe dr mn pr hg al sd on ot we) (lq_X4_run_41_L X ru nn n i L G I o1 o2 o3) (lq_X4_run_41_G X ru nn n i L G I o1 o2 o3) (lq_X4_run_41_I X ru nn n i L G I o1 o2 o3) (lq_X4_run_41_o1 X ru nn n i L G I o1 o2 o3) (lq_X4_run_41_o2 X ru nn n i L G I o1 o2 o3) (lq_X4_run_41_o3 X ru nn n i L G I o1 o2 o3) := by
  intro n
  induction n with
  | zero => intro i ic wm ga fe dr mn pr hg al sd on ot we L G I o1 o2 o3 _ _ h; exact absurd h (Nat.not_lt_zero _)
  | succ n ih =>
    intro i ic wm ga fe dr mn pr hg al sd on ot we L G I o1 o2 o3 h hb hn
    have hm0 : mn 0 = L 2 := h.1.2.1.1
    by_cases c1 : nn ≤ i
    · simp only [lr_X4_run_41, lq_X4_run_41_L, lq_X4_run_41_G, lq_X4_run_41_I, lq_X4_run_41_o1, lq_X4_run_41_o2, lq_X4_run_41_o3, lr_X5_run_41, lq_X5_run_41_ic, lq_X5_run_41_wm, lq_X5_run_41_ga, lq_X5_run_41_fe, lq_X5_run_41_dr, lq_X5_run_41_mn, lq_X5_run_41_pr, lq_X5_run_41_hg, lq_X5_run_41_al, lq_X5_run_41_sd, lq_X5_run_41_on, lq_X5_run_41_ot, lq_X5_run_41_we, if_pos c1]
      exact ⟨hm0.symm, h⟩
    · simp only [lr_X4_run_41, lq_X4_run_41_L, lq_X4_run_41_G, lq_X4_run_41_I, lq_X4_run_41_o1, lq_X4_run_41_o2, lq_X4_run_41_o3, lr_X5_run_41, lq_X5_run_41_ic, lq_X5_run_41_wm, lq_X5_run_41_ga, lq_X5_run_41_fe, lq_X5_run_41_dr, lq_X5_run_41_mn, lq_X5_run_41_pr, lq_X5_run_41_hg, lq_X5_run_41_al, lq_X5_run_41_sd, lq_X5_run_41_on, lq_X5_run_41_ot, lq_X5_run_41_we, if_neg c1]
      obtain ⟨hL, h1, h2, h3⟩ := h
      have hlt := run_lt hb c1
      have hnx := mrel_next0 hY hR hwm hps ⟨_, _, _, hL⟩ hlt
      have hN := min_rel (w := 0) (Or.inl rfl) hY hR hwm hps hL (by rw [← hm0]; exact hlt)
      have hw := wet_eq (w := 0) hY (fun x hx => (hN.1 x hx).1) hN.2.2.1.1 hN.2.2.1.2.1
      have hdv := mrel_div0 hR hnx.1
      have e2 := hN.2.1.1
      have e3 := hN.2.1.2.1
      have e5 := hN.2.1.2.2.2.1
      rw [show Int32.toNatClampNeg (0 : Int32) = 0 from rfl] at e2 e3 e5
      have hbd := hN.2.2.2.2.2.2.1
      have hh : ¬ r_X1_holds (q_X2_passMinute_L L G I ru (Y 4) (Y 5) 2) = 0 := holds_ok hbd
      rw [x6, x7]
      refine ih (i + 1) _ _ _ _ _ _ _ _ _ _ _ _ _ _ _ _ _ _ _ ⟨hN, ?_, ?_, ?_⟩ (run_step hb hnx.2 c1) (cnt2_lt c1 hn)
      · intro j hj
        unfold q_X1_note_o1
        rw [if_neg hh, e2, e3]
        by_cases q : j = Int32.toNatClampNeg (q_X2_passMinute_L L G I ru (Y 4) (Y 5) 2)
        · rw [q, pk_us, pk_us]
        · rw [pk_un q, pk_un q]; exact h1 j hj
      · intro j hj
        unfold q_X1_note_o2
        rw [if_neg hh]
        rw [e5] at hdv
        have eg : r_X2_otherGauge (q_X2_passMinute_L L G I ru (Y 4) (Y 5)) ru = (((q_X2_passMinute_L L G I ru (Y 4) (Y 5) 3) * (100 + ((60 * (q_X2_passMinute_L L G I ru (Y 4) (Y 5) 5)) / ((q_X2_passMinute_L L G I ru (Y 4) (Y 5) 5) + (ru 10))))) / 100) := by
          unfold r_X2_otherGauge r_X4_quotient
          rw [vo10, if_neg hdv]
        rw [eg, e2, e3, e5]
        by_cases q : j = Int32.toNatClampNeg (q_X2_passMinute_L L G I ru (Y 4) (Y 5) 2)
        · rw [q, pk_us, pk_us]
        · rw [pk_un q, pk_un q]; exact h2 j hj
      · unfold q_X1_note_o3
        rw [if_neg hh, hw, e2, h3]
theorem op_run {nn : Int32} (h : REL X R L G I L2 G2 I2 o1 o2 o3 Y ru ic wm ga fe dr mn pr hg al sd on ot we tr) : r_X4_run X R L G I o1 o2 o3 nn = r_X5_run Y ru ic wm ga fe dr mn pr hg al sd on ot we nn ∧ REL X R (q_X4_run_L X R L G I o1 o2 o3 nn) (q_X4_run_G X R L G I o1 o2 o3 nn) (q_X4_run_I X R L G I o1 o2 o3 nn) L2 G2 I2 (q_X4_run_o1 X R L G I o1 o2 o3 nn) (q_X4_run_o2 X R L G I o1 o2 o3 nn) (q_X4_run_o3 X R L G I o1 o2 o3 nn) Y ru (q_X5_run_ic Y ru ic wm ga fe dr mn pr hg al sd on ot we nn) (q_X5_run_wm Y ru ic wm ga fe dr mn pr hg al sd on ot we nn) (q_X5_run_ga Y ru ic wm ga fe dr mn pr hg al sd on ot we nn) (q_X5_run_fe Y ru ic wm ga fe dr mn pr hg al sd on ot we nn) (q_X5_run_dr Y ru ic wm ga fe dr mn pr hg al sd on ot we nn) (q_X5_run_mn Y ru ic wm ga fe dr mn pr hg al sd on ot we nn) (q_X5_run_pr Y ru ic wm ga fe dr mn pr hg al sd on ot we nn) (q_X5_run_hg Y ru ic wm ga fe dr mn pr hg al sd on ot we nn) (q_X5_run_al Y ru ic wm ga fe dr mn pr hg al sd on ot we nn) (q_X5_run_sd Y ru ic wm ga fe dr mn pr hg al sd on ot we nn) (q_X5_run_on Y ru ic wm ga fe dr mn pr hg al sd on ot we nn) (q_X5_run_ot Y ru ic wm ga fe dr mn pr hg al sd on ot we nn) (q_X5_run_we Y ru ic wm ga fe dr mn pr hg al sd on ot we nn) tr := by
  obtain ⟨⟨hR, hB, hY⟩, ⟨x4, x5, x6, x7, x8, x9⟩, hb, hm, hl, ho, ht⟩ := id h
  subst hR
  unfold r_X4_run q_X4_run_L q_X4_run_G q_X4_run_I q_X4_run_o1 q_X4_run_o2 q_X4_run_o3 r_X5_run q_X5_run_ic q_X5_run_wm q_X5_run_ga q_X5_run_fe q_X5_run_dr q_X5_run_mn q_X5_run_pr q_X5_run_hg q_X5_run_al q_X5_run_sd q_X5_run_on q_X5_run_ot q_X5_run_we
  rw [wi (a' := 1) (b' := 500) rfl rfl, x8, ← hm.1]
  by_cases c1 : r_X5_in (Int32.toInt64 nn) 1 500 = 0
  · simp only [if_pos c1]; exact ⟨trivial, h⟩
  · by_cases c2 : Y 3 = 0
    · simp only [if_neg c1, if_pos c2]; exact ⟨trivial, h⟩
    · by_cases c3 : (mn 0) + nn ≤ 2000
      · simp only [if_neg c1, if_neg c2, if_pos c3]
        have e0 : (0 : Int32).toInt = 0 := rfl
        have hr := run_loop (X := X) hY hB x6 x7 hb.1 hb.2 (fu ((Int32.toInt nn).toNat + 1)) 0 _ _ _ _ _ _ _ _ _ _ _ _ _ _ _ _ _ _ _ ⟨hl c2, ho.1, ho.2.1, ho.2.2⟩ (run_entry ⟨_, _, _, hl c2⟩ c1 c3) (by rw [fu_eq]; omega)
        obtain ⟨r1, r2, r3, r4, r5⟩ := hr
        have k1 := r2.2.1.1
        rw [show Int32.toNatClampNeg (0 : Int32) = 0 from rfl] at k1
        exact ⟨r1, ⟨rfl, hB, hY⟩, ⟨x4, x5, x6, x7, x8, x9⟩, hb, ⟨k1, r2.2.2.2.2.2.2.1⟩, fun _ => r2, ⟨r3, r4, r5⟩, ht⟩
      · simp only [if_neg c1, if_neg c2, if_neg c3]; exact ⟨trivial, h⟩
end OPS3
