/-! one vial's minute: the reference's numbers are the group's -/
theorem vo0 (R : Nat → Int32) : r_X3_valueOf R 0 = R 0 := by unfold r_X3_valueOf; rw [if_neg (by decide)]; rfl
theorem vo1 (R : Nat → Int32) : r_X3_valueOf R 1 = R 1 := by unfold r_X3_valueOf; rw [if_neg (by decide)]; rfl
theorem vo2 (R : Nat → Int32) : r_X3_valueOf R 2 = R 2 := by unfold r_X3_valueOf; rw [if_neg (by decide)]; rfl
theorem vo3 (R : Nat → Int32) : r_X3_valueOf R 3 = R 3 := by unfold r_X3_valueOf; rw [if_neg (by decide)]; rfl
theorem vo6 (R : Nat → Int32) : r_X3_valueOf R 6 = R 6 := by unfold r_X3_valueOf; rw [if_neg (by decide)]; rfl
theorem vo7 (R : Nat → Int32) : r_X3_valueOf R 7 = R 7 := by unfold r_X3_valueOf; rw [if_neg (by decide)]; rfl
theorem vo8 (R : Nat → Int32) : r_X3_valueOf R 8 = R 8 := by unfold r_X3_valueOf; rw [if_neg (by decide)]; rfl
theorem vo9 (R : Nat → Int32) : r_X3_valueOf R 9 = R 9 := by unfold r_X3_valueOf; rw [if_neg (by decide)]; rfl
theorem vo10 (R : Nat → Int32) : r_X3_valueOf R 10 = R 10 := by unfold r_X3_valueOf; rw [if_neg (by decide)]; rfl
theorem ne0_of {x : Int32} (h : 1 ≤ x.toInt) : ¬ x = 0 := fun z => by rw [z] at h; exact absurd h (by decide)
theorem dd_bd {f x : Int32} (hf : 100 ≤ f.toInt ∧ f.toInt ≤ 5000) (hx : 0 ≤ x.toInt ∧ x.toInt ≤ f.toInt) : 0 ≤ ((100 * (f - x)) / f).toInt ∧ ((100 * (f - x)) / f).toInt ≤ 100 := by
  have e100 : (100 : Int32).toInt = 100 := rfl
  have e1 : (f - x).toInt = f.toInt - x.toInt := subI (by omega) (by omega)
  have e2 : (100 * (f - x)).toInt = 100 * (f.toInt - x.toInt) := by rw [mulI (by rw [e100]; omega) (by rw [e100]; omega), e1, e100]
  rw [divI (by omega), e2, Int.tdiv_eq_ediv_of_nonneg (by omega)]
  refine ⟨Int.ediv_nonneg (by omega) (by omega), ?_⟩
  apply Int.ediv_le_of_le_mul (by omega)
  omega
/-- what bars the steam of a vial with x ice -/
def bsB (ru : Nat → Int32) (x : Int32) : Int32 := ((ru 4) + ((ru 5) * ((100 * ((ru 0) - x)) / (ru 0))))
theorem bsB_bd {ru : Nat → Int32} (h : RB ru) {x : Int32} (hx : 0 ≤ x.toInt ∧ x.toInt ≤ (ru 0).toInt) : 10 ≤ (bsB ru x).toInt ∧ (bsB ru x).toInt ≤ 6000 := by
  have hd := dd_bd h.1 hx
  obtain ⟨e, h1, h2⟩ := bars_val h hd.1 hd.2
  unfold bsB
  rw [e]; exact ⟨h1, h2⟩
theorem bsB_ne {ru : Nat → Int32} (h : RB ru) {x : Int32} (hx : 0 ≤ x.toInt ∧ x.toInt ≤ (ru 0).toInt) : ¬ bsB ru x = 0 := ne0_of (by have := bsB_bd h hx; omega)
theorem bsB_cl {ru : Nat → Int32} (h : RB ru) (x : Int32) : r_X3_bars ru (r_X4_quotient (100 * ((r_X3_valueOf ru 0) - x)) (r_X3_valueOf ru 0)) = bsB ru x := by
  rw [vo0]
  unfold r_X3_bars r_X4_quotient bsB
  rw [if_neg (ne0_of (by have := h.1; omega))]
theorem steam_eq {ru : Nat → Int32} {t dd p : Int32} (hb : ¬ ((ru 4) + ((ru 5) * dd)) = 0) : r_X5_steamAt ru t dd p = r_X4_steamAt t ((ru 4) + ((ru 5) * dd)) p := by
  unfold r_X5_steamAt r_X4_steamAt r_X4_quotient
  rw [vap_eq, if_neg hb]
  have e0 : (0 : Int32).toInt = 0 := rfl
  by_cases c1 : 0 < r_X4_vapourAt t - p
  · have := (tI_lt _ _).mp c1
    rw [if_pos c1, if_pos ((tI_le _ _).mpr (by omega))]
  · rw [if_neg c1]
    have c1' : ¬ 0 < (r_X4_vapourAt t - p).toInt := fun z => c1 ((tI_lt _ _).mpr (by omega))
    by_cases c2 : 0 ≤ r_X4_vapourAt t - p
    · rw [if_pos c2]
      have := (tI_le _ _).mp c2
      rw [show r_X4_vapourAt t - p = 0 from (tI_eq _ _).mpr (by omega)]
    · rw [if_neg c2]
      apply (tI_eq _ _).mpr
      rw [divI (by decide), show ((0 : Int32) * 10).toInt = 0 from by decide, Int.zero_tdiv, e0]
theorem holds_eq {Y ru ic pr : Nat → Int32} {w k t sh : Int32} (h : RB ru) (hx : 0 ≤ (ic (Int32.toNatClampNeg ((24 * w) + k))).toInt ∧ (ic (Int32.toNatClampNeg ((24 * w) + k))).toInt ≤ (ru 0).toInt) :
    r_X5_holds Y ru ic pr w k t sh = 0 ↔ FF ((ru 1) + (mg_X5_holds_41 Y ru k)) sh (bsB ru (ic (Int32.toNatClampNeg ((24 * w) + k)))) (pr (Int32.toNatClampNeg w)) (ru 3) t := by
  unfold r_X5_holds FF
  rw [steam_eq (bsB_ne h hx)]
  unfold bsB
  constructor
  · intro z
    by_cases c : ((((ru 1) + (mg_X5_holds_41 Y ru k)) * (sh - t)) / 10) < ((r_X4_steamAt t ((ru 4) + ((ru 5) * ((100 * ((ru 0) - (ic (Int32.toNatClampNeg ((24 * w) + k))))) / (ru 0)))) (pr (Int32.toNatClampNeg w))) * (ru 3))
    · exact c
    · rw [if_neg c] at z; exact absurd z (by decide)
  · intro c
    rw [if_pos c]
theorem heat_bd {Y ru : Nat → Int32} (h : RB ru) (k : Int32) : 1 ≤ ((ru 1) + (mg_X5_holds_41 Y ru k)).toInt ∧ ((ru 1) + (mg_X5_holds_41 Y ru k)).toInt ≤ 100 := by
  obtain ⟨-, h1, h2, -⟩ := h
  have e0 : (0 : Int32).toInt = 0 := rfl
  unfold mg_X5_holds_41
  split
  · rw [addI (by omega) (by omega)]; omega
  · rw [addI (by omega) (by omega)]; omega
theorem warm_eq {Y ru ic pr B : Nat → Int32} {w k sh : Int32} (h : RB ru) (hx : 0 ≤ (B 2).toInt ∧ (B 2).toInt ≤ (ru 0).toInt) (hsh : -600 ≤ sh.toInt ∧ sh.toInt ≤ 400) {p : Int32} (hp : 0 ≤ p.toInt ∧ p.toInt ≤ 20000)
    (ei : ic (Int32.toNatClampNeg ((24 * w) + k)) = B 2) (ep : pr (Int32.toNatClampNeg w) = p) (eh : B 5 = (ru 1) + (mg_X5_holds_41 Y ru k)) : r_X5_warmthOf Y ru ic pr w k sh = r_X0_balance B sh (bsB ru (B 2)) p (ru 3) := by
  have hFB : FB (B 5) sh (bsB ru (B 2)) p (ru 3) := ⟨by rw [eh]; exact heat_bd h k, hsh, bsB_bd h hx, hp, h.2.2.2.1⟩
  refine BI_one (F := FF (B 5) sh (bsB ru (B 2)) p (ru 3)) (fun t u a1 a2 a3 a4 => FF_mono hFB a1 a2 a3 a4) ?_ (bal_is B sh (bsB ru (B 2)) p (ru 3))
  unfold r_X5_warmthOf
  refine war_is _ (fun t _ _ => ?_) _ _ _ (by decide) (by rw [fu_eq]; decide) (Or.inl (by decide)) (Or.inl (by decide))
  rw [holds_eq h (by rw [ei]; exact hx), ei, ep, ← eh]
noncomputable def nT (B ru : Nat → Int32) (sh p : Int32) : Int32 := r_X0_balance B sh (bsB ru (B 2)) p (ru 3)
noncomputable def nS (B ru : Nat → Int32) (sh p : Int32) : Int32 := if (r_X4_steamAt (nT B ru sh p) (bsB ru (B 2)) p) < (B 2) then (r_X4_steamAt (nT B ru sh p) (bsB ru (B 2)) p) else (B 2)
theorem pass0 {B ru : Nat → Int32} {sh p mi : Int32} (h : B 2 = 0) : q_X0_passMinute_G B ru sh p mi = g8 (B 0) (B 1) (B 2) 0 (B 4) (B 5) sh (B 7) := by
  unfold q_X0_passMinute_G
  rw [if_pos h]
theorem pass1 {B ru : Nat → Int32} {sh p mi : Int32} (hR : RB ru) (h : ¬ B 2 = 0) : q_X0_passMinute_G B ru sh p mi = g8 (B 0) (B 1) (B 2 - nS B ru sh p) (nS B ru sh p) (if B 4 = (-6) then (if nT B ru sh p ≤ ru 6 then B 4 else mi) else B 4) (B 5) (nT B ru sh p) (if B 2 - nS B ru sh p = 0 then mi else B 7) := by
  unfold q_X0_passMinute_G mg_X0_passMinute_101
  rw [if_neg h, bsB_cl hR, vo3, vo6]
  show _ = _
  by_cases c1 : B 4 = (-6)
  · rw [if_pos c1, if_pos c1]
    by_cases c2 : nT B ru sh p ≤ ru 6
    · rw [if_pos (show r_X0_balance B sh (bsB ru (B 2)) p (ru 3) ≤ ru 6 from c2), if_pos c2]; rfl
    · rw [if_neg (show ¬ r_X0_balance B sh (bsB ru (B 2)) p (ru 3) ≤ ru 6 from c2), if_neg c2]; rfl
  · rw [if_neg c1, if_neg c1]; rfl
/-- a group's bounds -/
def GB (B ru : Nat → Int32) : Prop := (0 ≤ (B 2).toInt ∧ (B 2).toInt ≤ (ru 0).toInt) ∧ (B 4 = (-6) ∨ 0 ≤ (B 4).toInt)
theorem nS_bd {B ru : Nat → Int32} {sh p : Int32} (hR : RB ru) (hG : GB B ru) (hp : 0 ≤ p.toInt ∧ p.toInt ≤ 20000) : 0 ≤ (nS B ru sh p).toInt ∧ (nS B ru sh p).toInt ≤ (B 2).toInt := by
  have ht := (bal_is B sh (bsB ru (B 2)) p (ru 3)).1
  have hs : 0 ≤ (r_X4_steamAt (nT B ru sh p) (bsB ru (B 2)) p).toInt := by
    rw [steam_val (t := nT B ru sh p) ht hp (bsB_bd hR hG.1)]
    exact (sI_bd ht hp.1 (bsB_bd hR hG.1).1).1
  have h1 := hG.1
  unfold nS
  by_cases c : (r_X4_steamAt (nT B ru sh p) (bsB ru (B 2)) p) < (B 2)
  · rw [if_pos c]
    have := (tI_lt _ _).mp c
    omega
  · rw [if_neg c]; omega
theorem sub_bd {x y : Int32} (h1 : 0 ≤ y.toInt) (h2 : y.toInt ≤ x.toInt) : (x - y).toInt = x.toInt - y.toInt := by
  have := rng x
  exact subI (by omega) (by omega)
theorem pass_GB {B ru : Nat → Int32} {sh p mi : Int32} (hR : RB ru) (hG : GB B ru) (hp : 0 ≤ p.toInt ∧ p.toInt ≤ 20000) (hm : 0 ≤ mi.toInt) : GB (q_X0_passMinute_G B ru sh p mi) ru := by
  by_cases h : B 2 = 0
  · rw [pass0 h]; exact hG
  · rw [pass1 hR h]
    have hs := nS_bd (sh := sh) hR hG hp
    refine ⟨?_, ?_⟩
    · show 0 ≤ (B 2 - nS B ru sh p).toInt ∧ (B 2 - nS B ru sh p).toInt ≤ (ru 0).toInt
      rw [sub_bd hs.1 hs.2]
      have := hG.1
      omega
    · show (if B 4 = (-6) then (if nT B ru sh p ≤ ru 6 then B 4 else mi) else B 4) = (-6) ∨ 0 ≤ (if B 4 = (-6) then (if nT B ru sh p ≤ ru 6 then B 4 else mi) else B 4).toInt
      by_cases c1 : B 4 = (-6)
      · rw [if_pos c1]
        by_cases c2 : nT B ru sh p ≤ ru 6
        · rw [if_pos c2]; exact hG.2
        · rw [if_neg c2]; exact Or.inr hm
      · rw [if_neg c1]; exact hG.2
theorem pass_gave {B ru : Nat → Int32} {sh p mi : Int32} (hR : RB ru) (hG : GB B ru) (hp : 0 ≤ p.toInt ∧ p.toInt ≤ 20000) : 0 ≤ (q_X0_passMinute_G B ru sh p mi 3).toInt ∧ (q_X0_passMinute_G B ru sh p mi 3).toInt ≤ (ru 0).toInt := by
  have h1 := hG.1
  by_cases h : B 2 = 0
  · rw [pass0 h]; exact ⟨by show 0 ≤ (0 : Int32).toInt; decide, by show (0 : Int32).toInt ≤ _; have e0 : (0 : Int32).toInt = 0 := rfl; omega⟩
  · rw [pass1 hR h]
    have hs := nS_bd (sh := sh) hR hG hp
    show 0 ≤ (nS B ru sh p).toInt ∧ (nS B ru sh p).toInt ≤ (ru 0).toInt
    omega
theorem pass_keep {B ru : Nat → Int32} {sh p mi : Int32} (hR : RB ru) : q_X0_passMinute_G B ru sh p mi 0 = B 0 ∧ q_X0_passMinute_G B ru sh p mi 1 = B 1 ∧ q_X0_passMinute_G B ru sh p mi 5 = B 5 := by
  by_cases h : B 2 = 0
  · rw [pass0 h]; exact ⟨rfl, rfl, rfl⟩
  · rw [pass1 hR h]; exact ⟨rfl, rfl, rfl⟩
/-- what goOn reckons of a vial with ice is what the group has behind its minute -/
theorem vial_new {Y ru ic fe dr mn pr B : Nat → Int32} {w i sh p mi : Int32} (hR : RB ru) (hG : GB B ru) (hsh : -600 ≤ sh.toInt ∧ sh.toInt ≤ 400) (hp : 0 ≤ p.toInt ∧ p.toInt ≤ 20000)
    (ei : ic (Int32.toNatClampNeg ((24 * w) + i)) = B 2) (ef : fe (Int32.toNatClampNeg ((24 * w) + i)) = B 4) (ed : dr (Int32.toNatClampNeg ((24 * w) + i)) = B 7) (ep : pr (Int32.toNatClampNeg w) = p) (em : mn (Int32.toNatClampNeg w) = mi) (eh : B 5 = (ru 1) + (mg_X5_holds_41 Y ru i)) (h : ¬ B 2 = 0) :
    mg_X5_goOn_114 Y ru pr w sh i ic = q_X0_passMinute_G B ru sh p mi 3 ∧ r_X5_warmthOf Y ru ic pr w i sh = q_X0_passMinute_G B ru sh p mi 6 ∧ (ic (Int32.toNatClampNeg ((24 * w) + i))) - mg_X5_goOn_114 Y ru pr w sh i ic = q_X0_passMinute_G B ru sh p mi 2
    ∧ mg_X5_goOn_183 Y ru mn pr w sh i ic fe = q_X0_passMinute_G B ru sh p mi 4 ∧ mg_X5_goOn_226 Y ru mn pr w sh i ic dr = q_X0_passMinute_G B ru sh p mi 7 := by
  have et : r_X5_warmthOf Y ru ic pr w i sh = nT B ru sh p := warm_eq hR hG.1 hsh hp ei ep eh
  have es : mg_X5_goOn_114 Y ru pr w sh i ic = nS B ru sh p := by
    unfold mg_X5_goOn_114 nS
    rw [et, steam_eq (by rw [ei]; exact bsB_ne hR hG.1), ei, ep]
    show (if B 2 ≤ r_X4_steamAt (nT B ru sh p) (bsB ru (B 2)) p then B 2 else r_X4_steamAt (nT B ru sh p) (bsB ru (B 2)) p) = _
    by_cases c : (r_X4_steamAt (nT B ru sh p) (bsB ru (B 2)) p) < (B 2)
    · have c' := (tI_lt _ _).mp c
      rw [if_pos c, if_neg (fun z => by have := (tI_le _ _).mp z; omega)]
    · have c' : ¬ (r_X4_steamAt (nT B ru sh p) (bsB ru (B 2)) p).toInt < (B 2).toInt := fun z => c ((tI_lt _ _).mpr z)
      rw [if_neg c, if_pos ((tI_le _ _).mpr (by omega))]
  rw [pass1 hR h]
  refine ⟨es, et, ?_, ?_, ?_⟩
  · show _ = B 2 - nS B ru sh p
    rw [es, ei]
  · show _ = (if B 4 = (-6) then (if nT B ru sh p ≤ ru 6 then B 4 else mi) else B 4)
    unfold mg_X5_goOn_183
    rw [et, ef, em]
    by_cases c2 : nT B ru sh p ≤ ru 6
    · rw [if_pos c2, if_pos c2]; split <;> rfl
    · rw [if_neg c2, if_neg c2]
      by_cases c1 : B 4 = (-6)
      · rw [if_pos c1, if_neg (by rw [c1]; decide)]
      · rw [if_neg c1]
        rcases hG.2 with z | z
        · exact absurd z c1
        · rw [if_pos (show (0 : Int32) ≤ B 4 from (tI_le _ _).mpr z)]
  · show _ = (if B 2 - nS B ru sh p = 0 then mi else B 7)
    unfold mg_X5_goOn_226
    rw [pk_us, es, ei, em, ed]
