/-! the vials of a shelf, rim and inside, and the reference's minute over them -/
def SH (Y : Nat → Int32) : Prop := (1 ≤ (Y 0).toInt ∧ (Y 0).toInt ≤ 4) ∧ (1 ≤ (Y 1).toInt ∧ (Y 1).toInt ≤ 6)
def cR (Y : Nat → Int32) : Nat → Int32
  | 0 => 0
  | n + 1 => cR Y n + (if r_X5_isRim Y (nI n) = 0 then 0 else 1)
def cN (Y : Nat → Int32) : Nat → Int32
  | 0 => 0
  | n + 1 => cN Y n + (if r_X5_isRim Y (nI n) = 0 then 1 else 0)
def innr (r c : Int32) : Int32 := (if 0 < (r - 2) then (r - 2) else 0) * (if 0 < (c - 2) then (c - 2) else 0)
def NV (Y : Nat → Int32) : Nat := ((Y 0).toInt * (Y 1).toInt).toNat
theorem sh_cases {Y : Nat → Int32} (h : SH Y) : ∃ a b : Nat, a < 4 ∧ b < 6 ∧ Y 0 = nI (a + 1) ∧ Y 1 = nI (b + 1) := by
  obtain ⟨⟨h1, h2⟩, h3, h4⟩ := h
  refine ⟨(Y 0).toInt.toNat - 1, (Y 1).toInt.toNat - 1, by omega, by omega, ?_, ?_⟩
  · apply (tI_eq _ _).mpr; rw [nI_toInt (by omega)]; omega
  · apply (tI_eq _ _).mpr; rw [nI_toInt (by omega)]; omega
theorem nv_bd {Y : Nat → Int32} (h : SH Y) : 1 ≤ NV Y ∧ NV Y ≤ 24 ∧ r_X5_vials Y = nI (NV Y) := by
  obtain ⟨a, b, ha, hb, e1, e2⟩ := sh_cases h
  have hm := mul_bd (x := ((a + 1 : Nat) : Int)) (y := ((b + 1 : Nat) : Int)) (a := 4) (b := 6) (by omega) (by omega) (by omega) (by omega)
  have e : NV Y = (a + 1) * (b + 1) := by
    unfold NV
    rw [e1, e2, nI_toInt (by omega), nI_toInt (by omega), ← Int.natCast_mul]
    rfl
  have h24 : (a + 1) * (b + 1) ≤ 4 * 6 := Nat.mul_le_mul (by omega) (by omega)
  have h1 : 1 * 1 ≤ (a + 1) * (b + 1) := Nat.mul_le_mul (by omega) (by omega)
  refine ⟨by omega, by omega, ?_⟩
  unfold r_X5_vials
  rw [e, e1, e2, pk_mul]
theorem rim_y (Y : Nat → Int32) (k : Int32) : r_X5_isRim Y k = r_X5_isRim (y21 (Y 0) (Y 1) 0 0 0 0) k := rfl
theorem cR_y (Y : Nat → Int32) : ∀ n, cR Y n = cR (y21 (Y 0) (Y 1) 0 0 0 0) n
  | 0 => rfl
  | n + 1 => by rw [cR, cR, cR_y Y n, rim_y]
theorem cN_y (Y : Nat → Int32) : ∀ n, cN Y n = cN (y21 (Y 0) (Y 1) 0 0 0 0) n
  | 0 => rfl
  | n + 1 => by rw [cN, cN, cN_y Y n, rim_y]
theorem cnt_tab : ∀ a : Nat, a < 4 → ∀ b : Nat, b < 6 → cR (y21 (nI (a + 1)) (nI (b + 1)) 0 0 0 0) ((a + 1) * (b + 1)) = nI (a + 1) * nI (b + 1) - innr (nI (a + 1)) (nI (b + 1)) ∧ cN (y21 (nI (a + 1)) (nI (b + 1)) 0 0 0 0) ((a + 1) * (b + 1)) = innr (nI (a + 1)) (nI (b + 1)) := by decide +kernel
theorem cnt_all {Y : Nat → Int32} (h : SH Y) : cR Y (NV Y) = Y 0 * Y 1 - innr (Y 0) (Y 1) ∧ cN Y (NV Y) = innr (Y 0) (Y 1) := by
  obtain ⟨a, b, ha, hb, e1, e2⟩ := sh_cases h
  have e : NV Y = (a + 1) * (b + 1) := by
    unfold NV
    rw [e1, e2, nI_toInt (by omega), nI_toInt (by omega), ← Int.natCast_mul]
    rfl
  rw [cR_y, cN_y, e, e1, e2]
  exact cnt_tab a ha b hb
def kx (w : Int32) (j : Nat) : Nat := Int32.toNatClampNeg ((24 * w) + nI j)
theorem kx_ne {w : Int32} (hw : w = 0 ∨ w = 1) {i j : Nat} (hi : i < 24) (hj : j < 24) (h : i ≠ j) : kx w i ≠ kx w j := by
  have a1 : vp_in (nI i) 24 := vp_in_nI hi (by decide)
  have a2 : vp_in (nI j) 24 := vp_in_nI hj (by decide)
  rcases Nat.lt_or_ge i j with q | q
  · exact fun z => idx_ne hw a1 a2 (by rw [nI_toInt (by omega), nI_toInt (by omega)]; omega) z.symm
  · exact idx_ne hw a2 a1 (by rw [nI_toInt (by omega), nI_toInt (by omega)]; omega)
def gsel (Y G I : Nat → Int32) (j : Nat) : Nat → Int32 := if r_X5_isRim Y (nI j) = 0 then I else G
/-- the rows show the groups at vial j -/
def SHW (Y : Nat → Int32) (w : Int32) (G I ic wm ga fe dr : Nat → Int32) (j : Nat) : Prop := ic (kx w j) = gsel Y G I j 2 ∧ wm (kx w j) = gsel Y G I j 6 ∧ ga (kx w j) = gsel Y G I j 3 ∧ fe (kx w j) = gsel Y G I j 4 ∧ dr (kx w j) = gsel Y G I j 7
theorem sum_step {Y : Nat → Int32} (x y : Int32) (j : Nat) : (x * cR Y j + y * cN Y j) + (if r_X5_isRim Y (nI j) = 0 then y else x) = x * cR Y (j + 1) + y * cN Y (j + 1) := by
  rw [cR, cN]
  split
  · rw [Int32.mul_add, Int32.mul_add]; simp only [Int32.mul_zero, Int32.mul_one, Int32.add_zero]; rw [Int32.add_assoc]
  · rw [Int32.mul_add, Int32.mul_add]; simp only [Int32.mul_zero, Int32.mul_one, Int32.add_zero]; rw [Int32.add_assoc, Int32.add_assoc, Int32.add_comm (y * cN Y j)]
/-- what goOn leaves -/
def EE (Y : Nat → Int32) (w : Int32) (G I : Nat → Int32) (ru mn pr hg al sd : Nat → Int32) (se T : Int32) (ic wm ga fe dr mn' pr' hg' al' sd' : Nat → Int32) : Prop :=
  (∀ x, x < NV Y → SHW Y w G I ic wm ga fe dr x) ∧ mn' = upd mn (Int32.toNatClampNeg w) ((mn (Int32.toNatClampNeg w)) + 1) ∧ pr' = upd pr (Int32.toNatClampNeg w) (mg_X5_goOn_355 ru pr w se T) ∧ hg' = upd hg (Int32.toNatClampNeg w) (mg_X5_goOn_382 ru pr hg w se T) ∧ al' = upd al (Int32.toNatClampNeg w) T ∧ sd' = upd sd (Int32.toNatClampNeg w) ((sd (Int32.toNatClampNeg w)) + T)
theorem goOn_loop {Y ru mn pr hg al sd : Nat → Int32} {w sh se : Int32} {G I : Nat → Int32} {p mi : Int32} (hw : w = 0 ∨ w = 1) (hY : SH Y) (hR : RB ru) (hG : GB G ru) (hI : GB I ru) (hsh : -600 ≤ sh.toInt ∧ sh.toInt ≤ 400) (hp : 0 ≤ p.toInt ∧ p.toInt ≤ 20000)
    (ep : pr (Int32.toNatClampNeg w) = p) (em : mn (Int32.toNatClampNeg w) = mi) (h5 : G 5 = ru 1 + ru 2) (i5 : I 5 = ru 1) :
    ∀ (n j : Nat) (sm : Int32) (ic wm ga fe dr : Nat → Int32), j ≤ NV Y → NV Y - j < n →
      (∀ x, x < j → SHW Y w (q_X0_passMinute_G G ru sh p mi) (q_X0_passMinute_G I ru sh p mi) ic wm ga fe dr x) → (∀ x, j ≤ x → x < NV Y → SHW Y w G I ic wm ga fe dr x) →
      sm = (q_X0_passMinute_G G ru sh p mi 3) * cR Y j + (q_X0_passMinute_G I ru sh p mi 3) * cN Y j →
      EE Y w (q_X0_passMinute_G G ru sh p mi) (q_X0_passMinute_G I ru sh p mi) ru mn pr hg al sd se ((q_X0_passMinute_G G ru sh p mi 3) * cR Y (NV Y) + (q_X0_passMinute_G I ru sh p mi 3) * cN Y (NV Y))
        (lq_X5_goOn_6_ic Y ru mn pr hg al sd w sh se n sm (nI j) ic wm ga fe dr) (lq_X5_goOn_6_wm Y ru mn pr hg al sd w sh se n sm (nI j) ic wm ga fe dr) (lq_X5_goOn_6_ga Y ru mn pr hg al sd w sh se n sm (nI j) ic wm ga fe dr) (lq_X5_goOn_6_fe Y ru mn pr hg al sd w sh se n sm (nI j) ic wm ga fe dr) (lq_X5_goOn_6_dr Y ru mn pr hg al sd w sh se n sm (nI j) ic wm ga fe dr)
        (lq_X5_goOn_6_mn Y ru mn pr hg al sd w sh se n sm (nI j) ic wm ga fe dr) (lq_X5_goOn_6_pr Y ru mn pr hg al sd w sh se n sm (nI j) ic wm ga fe dr) (lq_X5_goOn_6_hg Y ru mn pr hg al sd w sh se n sm (nI j) ic wm ga fe dr) (lq_X5_goOn_6_al Y ru mn pr hg al sd w sh se n sm (nI j) ic wm ga fe dr) (lq_X5_goOn_6_sd Y ru mn pr hg al sd w sh se n sm (nI j) ic wm ga fe dr) := by
  obtain ⟨hN1, hN2, hNe⟩ := nv_bd hY
  intro n
  induction n with
  | zero => intro j sm ic wm ga fe dr _ h; exact absurd h (Nat.not_lt_zero _)
  | succ n ih =>
    intro j sm ic wm ga fe dr hj hn hA hB hs
    by_cases c1 : r_X5_vials Y ≤ nI j
    · have hjN : j = NV Y := by
        rw [hNe] at c1
        have := (nI_leI (by omega) (by omega)).mp c1
        omega
      simp only [lq_X5_goOn_6_ic, lq_X5_goOn_6_wm, lq_X5_goOn_6_ga, lq_X5_goOn_6_fe, lq_X5_goOn_6_dr, lq_X5_goOn_6_mn, lq_X5_goOn_6_pr, lq_X5_goOn_6_hg, lq_X5_goOn_6_al, lq_X5_goOn_6_sd, if_pos c1]
      subst hjN
      subst hs
      exact ⟨hA, rfl, rfl, rfl, rfl, rfl⟩
    · have hjN : j < NV Y := by
        rcases Nat.lt_or_ge j (NV Y) with q | q
        · exact q
        · exact absurd (by rw [hNe]; exact nI_le q (by omega)) c1
      obtain ⟨e2, e6, e3, e4, e7⟩ := hB j (Nat.le_refl _) hjN
      have hother : ∀ {x : Nat} {v : Int32} {f : Nat → Int32}, x < NV Y → x ≠ j → upd f (kx w j) v (kx w x) = f (kx w x) := fun hx hne => pk_un (kx_ne hw (by omega) (by omega) hne)
      have hGB : GB (gsel Y G I j) ru := by unfold gsel; split; exact hI; exact hG
      have h5' : gsel Y G I j 5 = (ru 1) + (mg_X5_holds_41 Y ru (nI j)) := by
        unfold gsel mg_X5_holds_41
        by_cases q : r_X5_isRim Y (nI j) = 0
        · rw [if_pos q, if_pos q, i5, Int32.add_zero]
        · rw [if_neg q, if_neg q, h5]
      have hq : q_X0_passMinute_G (gsel Y G I j) ru sh p mi = gsel Y (q_X0_passMinute_G G ru sh p mi) (q_X0_passMinute_G I ru sh p mi) j := by
        unfold gsel; split <;> rfl
      by_cases c2 : ic (Int32.toNatClampNeg ((24 * w) + nI j)) = 0
      · have hz : gsel Y G I j 2 = 0 := by rw [← e2]; exact c2
        simp only [lq_X5_goOn_6_ic, lq_X5_goOn_6_wm, lq_X5_goOn_6_ga, lq_X5_goOn_6_fe, lq_X5_goOn_6_dr, lq_X5_goOn_6_mn, lq_X5_goOn_6_pr, lq_X5_goOn_6_hg, lq_X5_goOn_6_al, lq_X5_goOn_6_sd, if_neg c1, if_pos c2]
        rw [nI_1]
        have hp0 := pass0 (ru := ru) (sh := sh) (p := p) (mi := mi) hz
        rw [hq] at hp0
        refine ih (j + 1) sm ic (upd wm (kx w j) sh) (upd ga (kx w j) 0) fe dr (by omega) (by omega) ?_ ?_ ?_
        · intro x hx
          by_cases hxj : x = j
          · subst hxj
            refine ⟨?_, ?_, ?_, ?_, ?_⟩
            · rw [e2, hp0]; rfl
            · rw [pk_us, hp0]; rfl
            · rw [pk_us, hp0]; rfl
            · rw [e4, hp0]; rfl
            · rw [e7, hp0]; rfl
          · obtain ⟨f2, f6, f3, f4, f7⟩ := hA x (by omega)
            exact ⟨f2, by rw [hother (by omega) hxj]; exact f6, by rw [hother (by omega) hxj]; exact f3, f4, f7⟩
        · intro x hx1 hx2
          obtain ⟨f2, f6, f3, f4, f7⟩ := hB x (by omega) hx2
          exact ⟨f2, by rw [hother hx2 (by omega)]; exact f6, by rw [hother hx2 (by omega)]; exact f3, f4, f7⟩
        · rw [← sum_step, hs]
          have hg3 : (if r_X5_isRim Y (nI j) = 0 then q_X0_passMinute_G I ru sh p mi 3 else q_X0_passMinute_G G ru sh p mi 3) = 0 := by
            have : gsel Y (q_X0_passMinute_G G ru sh p mi) (q_X0_passMinute_G I ru sh p mi) j 3 = 0 := by rw [hp0]; rfl
            unfold gsel at this
            by_cases q : r_X5_isRim Y (nI j) = 0
            · rw [if_pos q] at this ⊢; exact this
            · rw [if_neg q] at this ⊢; exact this
          rw [hg3, Int32.add_zero]
      · have hz : ¬ gsel Y G I j 2 = 0 := by rw [← e2]; exact c2
        obtain ⟨v3, v6, v2, v4, v7⟩ := vial_new (Y := Y) (w := w) (i := nI j) hR hGB hsh hp e2 e4 e7 ep em h5' hz
        simp only [lq_X5_goOn_6_ic, lq_X5_goOn_6_wm, lq_X5_goOn_6_ga, lq_X5_goOn_6_fe, lq_X5_goOn_6_dr, lq_X5_goOn_6_mn, lq_X5_goOn_6_pr, lq_X5_goOn_6_hg, lq_X5_goOn_6_al, lq_X5_goOn_6_sd, if_neg c1, if_neg c2]
        rw [v2, v3, v4, v6, v7, nI_1, hq]
        refine ih (j + 1) _ (upd ic (kx w j) _) (upd wm (kx w j) _) (upd ga (kx w j) _) (upd fe (kx w j) _) (upd dr (kx w j) _) (by omega) (by omega) ?_ ?_ ?_
        · intro x hx
          by_cases hxj : x = j
          · subst hxj
            exact ⟨pk_us, pk_us, pk_us, pk_us, pk_us⟩
          · obtain ⟨f2, f6, f3, f4, f7⟩ := hA x (by omega)
            exact ⟨by rw [hother (by omega) hxj]; exact f2, by rw [hother (by omega) hxj]; exact f6, by rw [hother (by omega) hxj]; exact f3, by rw [hother (by omega) hxj]; exact f4, by rw [hother (by omega) hxj]; exact f7⟩
        · intro x hx1 hx2
          obtain ⟨f2, f6, f3, f4, f7⟩ := hB x (by omega) hx2
          exact ⟨by rw [hother hx2 (by omega)]; exact f2, by rw [hother hx2 (by omega)]; exact f6, by rw [hother hx2 (by omega)]; exact f3, by rw [hother hx2 (by omega)]; exact f4, by rw [hother hx2 (by omega)]; exact f7⟩
        · rw [← sum_step, hs]
          unfold gsel
          by_cases q : r_X5_isRim Y (nI j) = 0
          · rw [if_pos q, if_pos q]
          · rw [if_neg q, if_neg q]
