/-! a load put in; what a minute and a filling leave of the other half -/
theorem kx_val {w : Int32} (hw : w = 0 ∨ w = 1) {j : Nat} (hj : j ≤ 24) : ((24 * w) + nI j).toInt = (24 * w).toInt + j ∧ ((24 * w).toInt = 0 ∨ (24 * w).toInt = 24) := by
  have e0 : ((24 : Int32) * 0).toInt = 0 := by decide
  have e1 : ((24 : Int32) * 1).toInt = 24 := by decide
  have en : (nI j).toInt = j := nI_toInt (by omega)
  rcases hw with rfl | rfl
  · exact ⟨by rw [addI (by omega) (by omega), en], Or.inl e0⟩
  · exact ⟨by rw [addI (by omega) (by omega), en], Or.inr e1⟩
theorem kx_other {x y : Nat} (hx : x < 24) (hy : y < 24) : kx 0 x ≠ kx 1 y := by
  have a := kx_val (w := 0) (Or.inl rfl) (j := x) (by omega)
  have b := kx_val (w := 1) (Or.inr rfl) (j := y) (by omega)
  have e0 : ((24 : Int32) * 0).toInt = 0 := by decide
  have e1 : ((24 : Int32) * 1).toInt = 24 := by decide
  unfold kx
  show ((24 * 0) + nI x : Int32).toInt.toNat ≠ ((24 * 1) + nI y : Int32).toInt.toNat
  omega
theorem fill_ge {w : Int32} (hw : w = 0 ∨ w = 1) {j : Nat} (hj : j ≤ 24) : ((24 * w) + 24 ≤ (24 * w) + nI j) ↔ 24 ≤ j := by
  have a := kx_val hw hj
  have b := kx_val hw (j := 24) (by omega)
  have e : (nI 24) = 24 := rfl
  rw [e] at b
  rw [tI_le, a.1, b.1]
  omega
def FLD (w : Int32) (ru ic wm ga fe dr : Nat → Int32) (x : Nat) : Prop := ic (kx w x) = ru 0 ∧ wm (kx w x) = (-6) ∧ ga (kx w x) = 0 ∧ fe (kx w x) = (-6) ∧ dr (kx w x) = (-6)
theorem fill_loop {ru mn pr hg al sd : Nat → Int32} {w se : Int32} (hw : w = 0 ∨ w = 1) : ∀ (n j : Nat) (ic wm ga fe dr : Nat → Int32), j ≤ 24 → 24 - j < n → (∀ x, x < j → FLD w ru ic wm ga fe dr x) →
    (∀ x, x < 24 → FLD w ru (lq_X5_fill_5_ic ru mn pr hg al sd w se n ((24 * w) + nI j) ic wm ga fe dr) (lq_X5_fill_5_wm ru mn pr hg al sd w se n ((24 * w) + nI j) ic wm ga fe dr) (lq_X5_fill_5_ga ru mn pr hg al sd w se n ((24 * w) + nI j) ic wm ga fe dr) (lq_X5_fill_5_fe ru mn pr hg al sd w se n ((24 * w) + nI j) ic wm ga fe dr) (lq_X5_fill_5_dr ru mn pr hg al sd w se n ((24 * w) + nI j) ic wm ga fe dr) x)
    ∧ (∀ k, (∀ y, y < 24 → k ≠ kx w y) → lq_X5_fill_5_ic ru mn pr hg al sd w se n ((24 * w) + nI j) ic wm ga fe dr k = ic k ∧ lq_X5_fill_5_wm ru mn pr hg al sd w se n ((24 * w) + nI j) ic wm ga fe dr k = wm k ∧ lq_X5_fill_5_ga ru mn pr hg al sd w se n ((24 * w) + nI j) ic wm ga fe dr k = ga k ∧ lq_X5_fill_5_fe ru mn pr hg al sd w se n ((24 * w) + nI j) ic wm ga fe dr k = fe k ∧ lq_X5_fill_5_dr ru mn pr hg al sd w se n ((24 * w) + nI j) ic wm ga fe dr k = dr k)
    ∧ lq_X5_fill_5_mn ru mn pr hg al sd w se n ((24 * w) + nI j) ic wm ga fe dr = upd mn (Int32.toNatClampNeg w) 0 ∧ lq_X5_fill_5_pr ru mn pr hg al sd w se n ((24 * w) + nI j) ic wm ga fe dr = upd pr (Int32.toNatClampNeg w) se ∧ lq_X5_fill_5_hg ru mn pr hg al sd w se n ((24 * w) + nI j) ic wm ga fe dr = upd hg (Int32.toNatClampNeg w) se ∧ lq_X5_fill_5_al ru mn pr hg al sd w se n ((24 * w) + nI j) ic wm ga fe dr = upd al (Int32.toNatClampNeg w) 0 ∧ lq_X5_fill_5_sd ru mn pr hg al sd w se n ((24 * w) + nI j) ic wm ga fe dr = upd sd (Int32.toNatClampNeg w) 0 := by
  intro n
  induction n with
  | zero => intro j ic wm ga fe dr _ h; exact absurd h (Nat.not_lt_zero _)
  | succ n ih =>
    intro j ic wm ga fe dr hj hn hA
    by_cases c1 : (24 * w) + 24 ≤ (24 * w) + nI j
    · have hj24 := (fill_ge hw hj).mp c1
      simp only [lq_X5_fill_5_ic, lq_X5_fill_5_wm, lq_X5_fill_5_ga, lq_X5_fill_5_fe, lq_X5_fill_5_dr, lq_X5_fill_5_mn, lq_X5_fill_5_pr, lq_X5_fill_5_hg, lq_X5_fill_5_al, lq_X5_fill_5_sd, if_pos c1]
      exact ⟨fun x hx => hA x (by omega), fun k _ => ⟨trivial, trivial, trivial, trivial, trivial⟩, trivial, trivial, trivial, trivial, trivial⟩
    · have hj24 : j < 24 := by
        rcases Nat.lt_or_ge j 24 with q | q
        · exact q
        · exact absurd ((fill_ge hw hj).mpr q) c1
      simp only [lq_X5_fill_5_ic, lq_X5_fill_5_wm, lq_X5_fill_5_ga, lq_X5_fill_5_fe, lq_X5_fill_5_dr, lq_X5_fill_5_mn, lq_X5_fill_5_pr, lq_X5_fill_5_hg, lq_X5_fill_5_al, lq_X5_fill_5_sd, if_neg c1]
      rw [Int32.add_assoc, nI_1]
      have hi := ih (j + 1) (upd ic (kx w j) (ru 0)) (upd wm (kx w j) (-6)) (upd ga (kx w j) 0) (upd fe (kx w j) (-6)) (upd dr (kx w j) (-6)) (by omega) (by omega) (by
        intro x hx
        by_cases hxj : x = j
        · subst hxj; exact ⟨pk_us, pk_us, pk_us, pk_us, pk_us⟩
        · obtain ⟨f1, f2, f3, f4, f5⟩ := hA x (by omega)
          have hne := kx_ne hw (i := x) (j := j) (by omega) (by omega) hxj
          exact ⟨by rw [pk_un hne]; exact f1, by rw [pk_un hne]; exact f2, by rw [pk_un hne]; exact f3, by rw [pk_un hne]; exact f4, by rw [pk_un hne]; exact f5⟩)
      obtain ⟨r1, r2, r3⟩ := hi
      refine ⟨r1, fun k hk => ?_, r3⟩
      obtain ⟨s1, s2, s3, s4, s5⟩ := r2 k hk
      have hne := hk j hj24
      exact ⟨s1.trans (pk_un hne), s2.trans (pk_un hne), s3.trans (pk_un hne), s4.trans (pk_un hne), s5.trans (pk_un hne)⟩
theorem shape_tab1 : ∀ a : Nat, a < 4 → ∀ b : Nat, b < 6 → 0 < (nI (a + 1) * nI (b + 1) - innr (nI (a + 1)) (nI (b + 1))).toInt := by decide +kernel
theorem shape_tab2 : ∀ a : Nat, a < 4 → ∀ b : Nat, b < 6 → (0 < (innr (nI (a + 1)) (nI (b + 1))).toInt → r_X5_isRim (y21 (nI (a + 1)) (nI (b + 1)) 0 0 0 0) (nI (b + 2)) = 0) := by decide +kernel
theorem shape_tab2b : ∀ a : Nat, a < 4 → ∀ b : Nat, b < 6 → (0 < (innr (nI (a + 1)) (nI (b + 1))).toInt → b + 2 < (a + 1) * (b + 1)) := by decide +kernel
def shape_ok (a b x : Nat) : Bool := decide (r_X5_isRim (y21 (nI (a + 1)) (nI (b + 1)) 0 0 0 0) (nI x) = 0 → b + 2 ≤ x) && decide (r_X5_isRim (y21 (nI (a + 1)) (nI (b + 1)) 0 0 0 0) (nI x) = 0 → 0 < (innr (nI (a + 1)) (nI (b + 1))).toInt)
theorem shape_tab3 : ∀ a : Nat, a < 4 → ∀ b : Nat, b < 6 → ∀ x : Nat, x < (a + 1) * (b + 1) → shape_ok a b x = true := by decide +kernel
theorem shape_tab (a : Nat) (ha : a < 4) (b : Nat) (hb : b < 6) : 0 < (nI (a + 1) * nI (b + 1) - innr (nI (a + 1)) (nI (b + 1))).toInt ∧ (0 < (innr (nI (a + 1)) (nI (b + 1))).toInt → r_X5_isRim (y21 (nI (a + 1)) (nI (b + 1)) 0 0 0 0) (nI (b + 2)) = 0 ∧ b + 2 < (a + 1) * (b + 1)) ∧ ∀ x : Nat, x < (a + 1) * (b + 1) → r_X5_isRim (y21 (nI (a + 1)) (nI (b + 1)) 0 0 0 0) (nI x) = 0 → b + 2 ≤ x ∧ 0 < (innr (nI (a + 1)) (nI (b + 1))).toInt := by
  refine ⟨shape_tab1 a ha b hb, fun z => ⟨shape_tab2 a ha b hb z, shape_tab2b a ha b hb z⟩, fun x hx hr => ?_⟩
  have h := shape_tab3 a ha b hb x hx
  simp only [shape_ok, Bool.and_eq_true, decide_eq_true_eq] at h
  exact ⟨h.1 hr, h.2 hr⟩
/-- the first vial inside stands behind the first row and the first of the second -/
theorem shape {Y : Nat → Int32} (h : SH Y) : ∃ C : Nat, 1 ≤ C ∧ C < 24 ∧ Y 1 + 1 = nI C ∧ 0 < (Y 0 * Y 1 - innr (Y 0) (Y 1)).toInt ∧ (0 < (innr (Y 0) (Y 1)).toInt → r_X5_isRim Y (nI C) = 0 ∧ C < NV Y) ∧ ∀ x, x < NV Y → r_X5_isRim Y (nI x) = 0 → C ≤ x ∧ 0 < (innr (Y 0) (Y 1)).toInt := by
  obtain ⟨a, b, ha, hb, e1, e2⟩ := sh_cases h
  have e : NV Y = (a + 1) * (b + 1) := by
    unfold NV
    rw [e1, e2, nI_toInt (by omega), nI_toInt (by omega), ← Int.natCast_mul]
    rfl
  obtain ⟨t1, t2, t3⟩ := shape_tab a ha b hb
  refine ⟨b + 2, by omega, by omega, by rw [e2, nI_1], by rw [e1, e2]; exact t1, ?_, ?_⟩
  · intro z
    rw [e1, e2] at z
    rw [rim_y, e, e1, e2]
    exact t2 z
  · intro x hx hr
    rw [e] at hx
    rw [rim_y, e1, e2] at hr
    rw [e1, e2]
    exact t3 x hx hr
theorem fill_rel {Y ru ic wm ga fe dr mn pr hg al sd : Nat → Int32} {w se : Int32} (hw : w = 0 ∨ w = 1) (hY : SH Y) (hR : RB ru) (hse : 0 ≤ se.toInt ∧ se.toInt ≤ 5000) :
    LREL Y w ru (q_X5_fill_ic ru ic wm ga fe dr mn pr hg al sd w se) (q_X5_fill_wm ru ic wm ga fe dr mn pr hg al sd w se) (q_X5_fill_ga ru ic wm ga fe dr mn pr hg al sd w se) (q_X5_fill_fe ru ic wm ga fe dr mn pr hg al sd w se) (q_X5_fill_dr ru ic wm ga fe dr mn pr hg al sd w se) (q_X5_fill_mn ru ic wm ga fe dr mn pr hg al sd w se) (q_X5_fill_pr ru ic wm ga fe dr mn pr hg al sd w se) (q_X5_fill_hg ru ic wm ga fe dr mn pr hg al sd w se) (q_X5_fill_al ru ic wm ga fe dr mn pr hg al sd w se) (q_X5_fill_sd ru ic wm ga fe dr mn pr hg al sd w se)
      (q_X2_start_L se) (q_X2_start_G ru (Y 0) (Y 1)) (q_X2_start_I ru (Y 0) (Y 1)) := by
  obtain ⟨hN1, hN2, hNe⟩ := nv_bd hY
  obtain ⟨C, -, -, -, s1, s2, s3⟩ := shape hY
  have hl := fill_loop (ru := ru) (mn := mn) (pr := pr) (hg := hg) (al := al) (sd := sd) (se := se) hw (fu 25) 0 ic wm ga fe dr (by omega) (by rw [fu_eq]; omega) (fun x hx => absurd hx (Nat.not_lt_zero x))
  rw [nI_0, Int32.add_zero] at hl
  obtain ⟨r1, -, r3, r4, r5, r6, r7⟩ := hl
  have e0 : (0 : Int32).toInt = 0 := rfl
  have g2 : q_X2_start_G ru (Y 0) (Y 1) 2 = ru 0 := by
    show mg_X0_fill_17 (((Y 0) * (Y 1)) - innr (Y 0) (Y 1)) (r_X3_valueOf ru 0) = ru 0
    unfold mg_X0_fill_17
    rw [if_neg (fun z => by have := (tI_le _ _).mp z; omega), vo0]
  have i2 : 0 < (innr (Y 0) (Y 1)).toInt → q_X2_start_I ru (Y 0) (Y 1) 2 = ru 0 := by
    intro z
    show mg_X0_fill_17 (innr (Y 0) (Y 1)) (r_X3_valueOf ru 0) = ru 0
    unfold mg_X0_fill_17
    rw [if_neg (fun z => by have := (tI_le _ _).mp z; omega), vo0]
  have i2' : innr (Y 0) (Y 1) = 0 → q_X2_start_I ru (Y 0) (Y 1) 2 = 0 := by
    intro z
    show mg_X0_fill_17 (innr (Y 0) (Y 1)) (r_X3_valueOf ru 0) = 0
    unfold mg_X0_fill_17
    rw [if_pos (by rw [z]; decide)]
  have hf := hR.1
  have hc := cnt_bd hY
  refine ⟨?_, ⟨?_, ?_, ?_, ?_, ?_⟩, ⟨rfl, rfl, rfl, rfl, ?_, ?_⟩, ⟨?_, Or.inl rfl⟩, ⟨?_, Or.inl rfl⟩, ?_, ?_, ?_, ?_⟩
  · intro x hx
    obtain ⟨f1, f2, f3, f4, f5⟩ := r1 x (by omega)
    unfold SHW gsel
    by_cases q : r_X5_isRim Y (nI x) = 0
    · rw [if_pos q]
      exact ⟨f1.trans (i2 (s3 x hx q).2).symm, f2, f3, f4, f5⟩
    · rw [if_neg q]
      exact ⟨f1.trans g2.symm, f2, f3, f4, f5⟩
  · show q_X5_fill_mn ru ic wm ga fe dr mn pr hg al sd w se (Int32.toNatClampNeg w) = 0
    unfold q_X5_fill_mn
    rw [r3, pk_us]
  · show q_X5_fill_pr ru ic wm ga fe dr mn pr hg al sd w se (Int32.toNatClampNeg w) = se
    unfold q_X5_fill_pr
    rw [r4, pk_us]
  · show q_X5_fill_hg ru ic wm ga fe dr mn pr hg al sd w se (Int32.toNatClampNeg w) = se
    unfold q_X5_fill_hg
    rw [r5, pk_us]
  · show q_X5_fill_al ru ic wm ga fe dr mn pr hg al sd w se (Int32.toNatClampNeg w) = 0
    unfold q_X5_fill_al
    rw [r6, pk_us]
  · show q_X5_fill_sd ru ic wm ga fe dr mn pr hg al sd w se (Int32.toNatClampNeg w) = 0
    unfold q_X5_fill_sd
    rw [r7, pk_us]
  · show (r_X3_valueOf ru 1) + (r_X3_valueOf ru 2) = ru 1 + ru 2
    rw [vo1, vo2]
  · show r_X3_valueOf ru 1 = ru 1
    rw [vo1]
  · rw [g2]; omega
  · by_cases z : innr (Y 0) (Y 1) = 0
    · rw [i2' z]; omega
    · have z' : ¬ (innr (Y 0) (Y 1)).toInt = 0 := fun q => z ((tI_eq _ _).mpr q)
      rw [i2 (by omega)]; omega
  · show 0 ≤ se.toInt ∧ se.toInt ≤ 20000
    omega
  · show 0 ≤ (0 : Int32).toInt ∧ (0 : Int32).toInt ≤ 2000
    decide
  · show 0 ≤ (0 : Int32).toInt ∧ (0 : Int32).toInt ≤ 120000
    decide
  · intro z
    exact ⟨i2' z, rfl⟩
theorem fill_frame {ru ic wm ga fe dr mn pr hg al sd : Nat → Int32} {w se : Int32} (hw : w = 0 ∨ w = 1) {k : Nat} (hk : ∀ y, y < 24 → k ≠ kx w y) : q_X5_fill_ic ru ic wm ga fe dr mn pr hg al sd w se k = ic k ∧ q_X5_fill_wm ru ic wm ga fe dr mn pr hg al sd w se k = wm k ∧ q_X5_fill_ga ru ic wm ga fe dr mn pr hg al sd w se k = ga k ∧ q_X5_fill_fe ru ic wm ga fe dr mn pr hg al sd w se k = fe k ∧ q_X5_fill_dr ru ic wm ga fe dr mn pr hg al sd w se k = dr k := by
  have hl := fill_loop (ru := ru) (mn := mn) (pr := pr) (hg := hg) (al := al) (sd := sd) (se := se) hw (fu 25) 0 ic wm ga fe dr (by omega) (by rw [fu_eq]; omega) (fun x hx => absurd hx (Nat.not_lt_zero x))
  rw [nI_0, Int32.add_zero] at hl
  exact hl.2.1 k hk
theorem fill_scal {ru ic wm ga fe dr mn pr hg al sd : Nat → Int32} {w se : Int32} (hw : w = 0 ∨ w = 1) {k : Nat} (hk : k ≠ Int32.toNatClampNeg w) : q_X5_fill_mn ru ic wm ga fe dr mn pr hg al sd w se k = mn k ∧ q_X5_fill_pr ru ic wm ga fe dr mn pr hg al sd w se k = pr k ∧ q_X5_fill_hg ru ic wm ga fe dr mn pr hg al sd w se k = hg k ∧ q_X5_fill_al ru ic wm ga fe dr mn pr hg al sd w se k = al k ∧ q_X5_fill_sd ru ic wm ga fe dr mn pr hg al sd w se k = sd k := by
  have hl := fill_loop (ru := ru) (mn := mn) (pr := pr) (hg := hg) (al := al) (sd := sd) (se := se) hw (fu 25) 0 ic wm ga fe dr (by omega) (by rw [fu_eq]; omega) (fun x hx => absurd hx (Nat.not_lt_zero x))
  rw [nI_0, Int32.add_zero] at hl
  obtain ⟨-, -, r3, r4, r5, r6, r7⟩ := hl
  unfold q_X5_fill_mn q_X5_fill_pr q_X5_fill_hg q_X5_fill_al q_X5_fill_sd
  rw [r3, r4, r5, r6, r7]
  exact ⟨pk_un hk, pk_un hk, pk_un hk, pk_un hk, pk_un hk⟩
theorem goOn_frame {Y ru mn pr hg al sd : Nat → Int32} {w sh se : Int32} (hY : SH Y) {k k2 : Nat} (hk : ∀ y, y < 24 → k ≠ kx w y) (hk2 : k2 ≠ Int32.toNatClampNeg w) :
    ∀ (n j : Nat) (sm : Int32) (ic wm ga fe dr : Nat → Int32), j ≤ NV Y → NV Y - j < n →
      (lq_X5_goOn_6_ic Y ru mn pr hg al sd w sh se n sm (nI j) ic wm ga fe dr k = ic k ∧ lq_X5_goOn_6_wm Y ru mn pr hg al sd w sh se n sm (nI j) ic wm ga fe dr k = wm k ∧ lq_X5_goOn_6_ga Y ru mn pr hg al sd w sh se n sm (nI j) ic wm ga fe dr k = ga k ∧ lq_X5_goOn_6_fe Y ru mn pr hg al sd w sh se n sm (nI j) ic wm ga fe dr k = fe k ∧ lq_X5_goOn_6_dr Y ru mn pr hg al sd w sh se n sm (nI j) ic wm ga fe dr k = dr k)
      ∧ (lq_X5_goOn_6_mn Y ru mn pr hg al sd w sh se n sm (nI j) ic wm ga fe dr k2 = mn k2 ∧ lq_X5_goOn_6_pr Y ru mn pr hg al sd w sh se n sm (nI j) ic wm ga fe dr k2 = pr k2 ∧ lq_X5_goOn_6_hg Y ru mn pr hg al sd w sh se n sm (nI j) ic wm ga fe dr k2 = hg k2 ∧ lq_X5_goOn_6_al Y ru mn pr hg al sd w sh se n sm (nI j) ic wm ga fe dr k2 = al k2 ∧ lq_X5_goOn_6_sd Y ru mn pr hg al sd w sh se n sm (nI j) ic wm ga fe dr k2 = sd k2) := by
  obtain ⟨hN1, hN2, hNe⟩ := nv_bd hY
  intro n
  induction n with
  | zero => intro j sm ic wm ga fe dr _ h; exact absurd h (Nat.not_lt_zero _)
  | succ n ih =>
    intro j sm ic wm ga fe dr hj hn
    by_cases c1 : r_X5_vials Y ≤ nI j
    · simp only [lq_X5_goOn_6_ic, lq_X5_goOn_6_wm, lq_X5_goOn_6_ga, lq_X5_goOn_6_fe, lq_X5_goOn_6_dr, lq_X5_goOn_6_mn, lq_X5_goOn_6_pr, lq_X5_goOn_6_hg, lq_X5_goOn_6_al, lq_X5_goOn_6_sd, if_pos c1]
      exact ⟨⟨trivial, trivial, trivial, trivial, trivial⟩, pk_un hk2, pk_un hk2, pk_un hk2, pk_un hk2, pk_un hk2⟩
    · have hjN : j < NV Y := by
        rcases Nat.lt_or_ge j (NV Y) with q | q
        · exact q
        · exact absurd (by rw [hNe]; exact nI_le q (by omega)) c1
      have hne : k ≠ Int32.toNatClampNeg ((24 * w) + nI j) := hk j (by omega)
      by_cases c2 : ic (Int32.toNatClampNeg ((24 * w) + nI j)) = 0
      · simp only [lq_X5_goOn_6_ic, lq_X5_goOn_6_wm, lq_X5_goOn_6_ga, lq_X5_goOn_6_fe, lq_X5_goOn_6_dr, lq_X5_goOn_6_mn, lq_X5_goOn_6_pr, lq_X5_goOn_6_hg, lq_X5_goOn_6_al, lq_X5_goOn_6_sd, if_neg c1, if_pos c2]
        rw [nI_1]
        obtain ⟨⟨s1, s2, s3, s4, s5⟩, t⟩ := ih (j + 1) sm ic (upd wm (Int32.toNatClampNeg ((24 * w) + nI j)) sh) (upd ga (Int32.toNatClampNeg ((24 * w) + nI j)) 0) fe dr (by omega) (by omega)
        exact ⟨⟨s1, s2.trans (pk_un hne), s3.trans (pk_un hne), s4, s5⟩, t⟩
      · simp only [lq_X5_goOn_6_ic, lq_X5_goOn_6_wm, lq_X5_goOn_6_ga, lq_X5_goOn_6_fe, lq_X5_goOn_6_dr, lq_X5_goOn_6_mn, lq_X5_goOn_6_pr, lq_X5_goOn_6_hg, lq_X5_goOn_6_al, lq_X5_goOn_6_sd, if_neg c1, if_neg c2]
        rw [nI_1]
        obtain ⟨⟨s1, s2, s3, s4, s5⟩, t⟩ := ih (j + 1) (sm + mg_X5_goOn_114 Y ru pr w sh (nI j) ic) (upd ic (Int32.toNatClampNeg ((24 * w) + nI j)) ((ic (Int32.toNatClampNeg ((24 * w) + nI j))) - (mg_X5_goOn_114 Y ru pr w sh (nI j) ic))) (upd wm (Int32.toNatClampNeg ((24 * w) + nI j)) (r_X5_warmthOf Y ru ic pr w (nI j) sh)) (upd ga (Int32.toNatClampNeg ((24 * w) + nI j)) (mg_X5_goOn_114 Y ru pr w sh (nI j) ic)) (upd fe (Int32.toNatClampNeg ((24 * w) + nI j)) (mg_X5_goOn_183 Y ru mn pr w sh (nI j) ic fe)) (upd dr (Int32.toNatClampNeg ((24 * w) + nI j)) (mg_X5_goOn_226 Y ru mn pr w sh (nI j) ic dr)) (by omega) (by omega)
        exact ⟨⟨s1.trans (pk_un hne), s2.trans (pk_un hne), s3.trans (pk_un hne), s4.trans (pk_un hne), s5.trans (pk_un hne)⟩, t⟩
/-- what the other half keeps -/
def KEEP0 (ic wm ga fe dr mn pr hg al sd ic' wm' ga' fe' dr' mn' pr' hg' al' sd' : Nat → Int32) : Prop := (∀ x, x < 24 → ic' (kx 0 x) = ic (kx 0 x) ∧ wm' (kx 0 x) = wm (kx 0 x) ∧ ga' (kx 0 x) = ga (kx 0 x) ∧ fe' (kx 0 x) = fe (kx 0 x) ∧ dr' (kx 0 x) = dr (kx 0 x)) ∧ mn' 0 = mn 0 ∧ pr' 0 = pr 0 ∧ hg' 0 = hg 0 ∧ al' 0 = al 0 ∧ sd' 0 = sd 0
theorem KEEP0.trans {ic wm ga fe dr mn pr hg al sd ic' wm' ga' fe' dr' mn' pr' hg' al' sd' ic2 wm2 ga2 fe2 dr2 mn2 pr2 hg2 al2 sd2 : Nat → Int32} (h1 : KEEP0 ic wm ga fe dr mn pr hg al sd ic' wm' ga' fe' dr' mn' pr' hg' al' sd') (h2 : KEEP0 ic' wm' ga' fe' dr' mn' pr' hg' al' sd' ic2 wm2 ga2 fe2 dr2 mn2 pr2 hg2 al2 sd2) : KEEP0 ic wm ga fe dr mn pr hg al sd ic2 wm2 ga2 fe2 dr2 mn2 pr2 hg2 al2 sd2 := by
  obtain ⟨a, a1, a2, a3, a4, a5⟩ := h1
  obtain ⟨b, b1, b2, b3, b4, b5⟩ := h2
  exact ⟨fun x hx => ⟨(b x hx).1.trans (a x hx).1, (b x hx).2.1.trans (a x hx).2.1, (b x hx).2.2.1.trans (a x hx).2.2.1, (b x hx).2.2.2.1.trans (a x hx).2.2.2.1, (b x hx).2.2.2.2.trans (a x hx).2.2.2.2⟩, b1.trans a1, b2.trans a2, b3.trans a3, b4.trans a4, b5.trans a5⟩
theorem fill_keep {ru ic wm ga fe dr mn pr hg al sd : Nat → Int32} {se : Int32} : KEEP0 ic wm ga fe dr mn pr hg al sd (q_X5_fill_ic ru ic wm ga fe dr mn pr hg al sd 1 se) (q_X5_fill_wm ru ic wm ga fe dr mn pr hg al sd 1 se) (q_X5_fill_ga ru ic wm ga fe dr mn pr hg al sd 1 se) (q_X5_fill_fe ru ic wm ga fe dr mn pr hg al sd 1 se) (q_X5_fill_dr ru ic wm ga fe dr mn pr hg al sd 1 se) (q_X5_fill_mn ru ic wm ga fe dr mn pr hg al sd 1 se) (q_X5_fill_pr ru ic wm ga fe dr mn pr hg al sd 1 se) (q_X5_fill_hg ru ic wm ga fe dr mn pr hg al sd 1 se) (q_X5_fill_al ru ic wm ga fe dr mn pr hg al sd 1 se) (q_X5_fill_sd ru ic wm ga fe dr mn pr hg al sd 1 se) :=
  ⟨fun x hx => fill_frame (Or.inr rfl) (fun y hy => kx_other hx hy), fill_scal (Or.inr rfl) (by decide)⟩
theorem goOn_keep {Y ru ic wm ga fe dr mn pr hg al sd : Nat → Int32} {sh se : Int32} (hY : SH Y) : KEEP0 ic wm ga fe dr mn pr hg al sd (q_X5_goOn_ic Y ru ic wm ga fe dr mn pr hg al sd 1 sh se) (q_X5_goOn_wm Y ru ic wm ga fe dr mn pr hg al sd 1 sh se) (q_X5_goOn_ga Y ru ic wm ga fe dr mn pr hg al sd 1 sh se) (q_X5_goOn_fe Y ru ic wm ga fe dr mn pr hg al sd 1 sh se) (q_X5_goOn_dr Y ru ic wm ga fe dr mn pr hg al sd 1 sh se) (q_X5_goOn_mn Y ru ic wm ga fe dr mn pr hg al sd 1 sh se) (q_X5_goOn_pr Y ru ic wm ga fe dr mn pr hg al sd 1 sh se) (q_X5_goOn_hg Y ru ic wm ga fe dr mn pr hg al sd 1 sh se) (q_X5_goOn_al Y ru ic wm ga fe dr mn pr hg al sd 1 sh se) (q_X5_goOn_sd Y ru ic wm ga fe dr mn pr hg al sd 1 sh se) := by
  obtain ⟨hN1, hN2, hNe⟩ := nv_bd hY
  have key : ∀ x, x < 24 → _ := fun x hx => goOn_frame (ru := ru) (mn := mn) (pr := pr) (hg := hg) (al := al) (sd := sd) (w := 1) (sh := sh) (se := se) hY (k := kx 0 x) (k2 := 0) (fun y hy => kx_other hx hy) (by decide) (fu ((Int32.toInt (r_X5_vials Y)).toNat + 1)) 0 0 ic wm ga fe dr (Nat.zero_le _) (by rw [fu_eq, hNe, nI_toInt (by omega)]; omega)
  exact ⟨fun x hx => (key x hx).1, (key 0 (by decide)).2⟩
theorem LREL_keep {Y ru ic wm ga fe dr mn pr hg al sd ic' wm' ga' fe' dr' mn' pr' hg' al' sd' L G I : Nat → Int32} (hY : SH Y) (hk : KEEP0 ic wm ga fe dr mn pr hg al sd ic' wm' ga' fe' dr' mn' pr' hg' al' sd') (h : LREL Y 0 ru ic wm ga fe dr mn pr hg al sd L G I) : LREL Y 0 ru ic' wm' ga' fe' dr' mn' pr' hg' al' sd' L G I := by
  obtain ⟨hN1, hN2, hNe⟩ := nv_bd hY
  obtain ⟨k, k1, k2, k3, k4, k5⟩ := hk
  obtain ⟨hS, ⟨e2, e3, e4, e5, e6⟩, hrest⟩ := h
  refine ⟨fun x hx => ?_, ⟨k1.trans e2, k2.trans e3, k3.trans e4, k4.trans e5, k5.trans e6⟩, hrest⟩
  obtain ⟨a1, a2, a3, a4, a5⟩ := k x (by omega)
  obtain ⟨b1, b2, b3, b4, b5⟩ := hS x hx
  exact ⟨a1.trans b1, a2.trans b2, a3.trans b3, a4.trans b4, a5.trans b5⟩
theorem LREL_okB {Y ru ic wm ga fe dr mn pr hg al sd L G I : Nat → Int32} {w : Int32} (hY : SH Y) (hR : RB ru) (h : LREL Y w ru ic wm ga fe dr mn pr hg al sd L G I) : okB Y ru ic w 0 := by
  obtain ⟨hN1, hN2, hNe⟩ := nv_bd hY
  obtain ⟨hS, -, -, hG, hI, -⟩ := h
  intro x h1 h2
  rw [hNe, nI_toInt (by omega)] at h2
  have e0 : (0 : Int32).toInt = 0 := rfl
  have ex : x = nI x.toInt.toNat := (tI_eq _ _).mpr (by rw [nI_toInt (by omega)]; omega)
  have hb := (hS x.toInt.toNat (by omega)).1
  unfold kx at hb
  rw [← ex] at hb
  rw [hb]
  have hGB : GB (gsel Y G I x.toInt.toNat) ru := by unfold gsel; split; exact hI; exact hG
  exact bsB_ne hR hGB.1
