/-! the first vial that fell in; sums over the vials -/
def BSP (g f : Int) (nn : Prop) (C j : Nat) (bs : Int32) : Prop := (g < 0 → ((nn ∧ C < j ∧ 0 ≤ f) → bs = nI C) ∧ (¬ (nn ∧ C < j ∧ 0 ≤ f) → bs = (-6))) ∧ (0 ≤ g → (j = 0 → bs = (-6)) ∧ (0 < j → ((nn ∧ C < j ∧ 0 ≤ f ∧ f < g) → bs = nI C) ∧ (¬ (nn ∧ C < j ∧ 0 ≤ f ∧ f < g) → bs = 0)))
theorem first_loop {Y fe G I : Nat → Int32} {w : Int32} {C : Nat} (hY : SH Y) (hS : ∀ x, x < NV Y → fe (kx w x) = gsel Y G I x 4) (hC1 : 1 ≤ C) (hC2 : C < 24) (s2 : 0 < (innr (Y 0) (Y 1)).toInt → r_X5_isRim Y (nI C) = 0 ∧ C < NV Y) (s3 : ∀ x, x < NV Y → r_X5_isRim Y (nI x) = 0 → C ≤ x ∧ 0 < (innr (Y 0) (Y 1)).toInt) :
    ∀ (n j : Nat) (bs : Int32), j ≤ NV Y → NV Y - j < n → BSP (G 4).toInt (I 4).toInt (0 < (innr (Y 0) (Y 1)).toInt) C j bs → BSP (G 4).toInt (I 4).toInt (0 < (innr (Y 0) (Y 1)).toInt) C (NV Y) (lr_X5_firstOf_5 Y fe w n bs (nI j)) := by
  obtain ⟨hN1, hN2, hNe⟩ := nv_bd hY
  have e0 : (0 : Int32).toInt = 0 := rfl
  have lt0 : ∀ z : Int32, z < 0 ↔ z.toInt < 0 := fun z => tI_lt z 0
  have nC : ¬ nI C < 0 := nI_pos (by omega)
  have n0 : ¬ (0 : Int32) < 0 := by decide
  have n6 : (-6 : Int32) < 0 := by decide
  have hfC : 0 < (innr (Y 0) (Y 1)).toInt → fe (Int32.toNatClampNeg ((24 * w) + nI C)) = I 4 := by
    intro z
    have h := hS C (s2 z).2
    unfold gsel at h
    rw [if_pos (s2 z).1] at h
    exact h
  have hf0 : fe (Int32.toNatClampNeg ((24 * w) + 0)) = G 4 := by
    have h := hS 0 (by omega)
    unfold gsel at h
    rw [if_neg (fun z => by have := (s3 0 (by omega) z).1; omega)] at h
    exact h
  intro n
  induction n with
  | zero => intro j bs _ h; exact absurd h (Nat.not_lt_zero _)
  | succ n ih =>
    intro j bs hj hn hB
    rw [lr_X5_firstOf_5]
    by_cases c1 : r_X5_vials Y ≤ nI j
    · rw [if_pos c1]
      have hjN : j = NV Y := by
        rw [hNe] at c1
        have := (nI_leI (by omega) (by omega)).mp c1
        omega
      rw [← hjN]; exact hB
    · rw [if_neg c1, nI_1]
      have hjN : j < NV Y := by
        rcases Nat.lt_or_ge j (NV Y) with q | q
        · exact q
        · exact absurd (by rw [hNe]; exact nI_le q (by omega)) c1
      obtain ⟨b1, b2⟩ := hB
      have hv := hS j hjN
      unfold kx gsel at hv
      by_cases q : r_X5_isRim Y (nI j) = 0
      · rw [if_pos q] at hv
        obtain ⟨hCj, hnn⟩ := s3 j hjN q
        rw [hv]
        by_cases d1 : I 4 < 0
        · rw [if_pos d1]
          have d1' := (lt0 _).mp d1
          refine ih (j + 1) bs (by omega) (by omega) ⟨fun hg => ⟨fun z => absurd z.2.2 (by omega), fun _ => (b1 hg).2 (fun z => by omega)⟩, fun hg => ⟨fun z => by omega, fun _ => ⟨fun z => absurd z.2.2.1 (by omega), fun _ => ((b2 hg).2 (by omega)).2 (fun z => by omega)⟩⟩⟩
        · rw [if_neg d1]
          have d1' : 0 ≤ (I 4).toInt := by have : ¬ (I 4).toInt < 0 := fun z => d1 ((lt0 _).mpr z); omega
          rcases Int.lt_or_le (G 4).toInt 0 with hg | hg
          · by_cases hcj : C < j
            · have hbs := (b1 hg).1 ⟨hnn, hcj, d1'⟩
              rw [hbs, if_neg nC, hfC hnn, if_pos ((tI_le _ _).mpr (Int.le_refl _))]
              exact ih (j + 1) (nI C) (by omega) (by omega) ⟨fun _ => ⟨fun _ => rfl, fun z => absurd ⟨hnn, by omega, d1'⟩ z⟩, fun z => by omega⟩
            · have hbs := (b1 hg).2 (fun z => hcj z.2.1)
              have hjC : j = C := by omega
              rw [hbs, if_pos n6]
              exact ih (j + 1) (nI j) (by omega) (by omega) ⟨fun _ => ⟨fun _ => by rw [hjC], fun z => absurd ⟨hnn, by omega, d1'⟩ z⟩, fun z => by omega⟩
          · by_cases hs : C < j ∧ (I 4).toInt < (G 4).toInt
            · have hbs := ((b2 hg).2 (by omega)).1 ⟨hnn, hs.1, d1', hs.2⟩
              rw [hbs, if_neg nC, hfC hnn, if_pos ((tI_le _ _).mpr (Int.le_refl _))]
              exact ih (j + 1) (nI C) (by omega) (by omega) ⟨fun z => by omega, fun _ => ⟨fun z => by omega, fun _ => ⟨fun _ => rfl, fun z => absurd ⟨hnn, by omega, d1', hs.2⟩ z⟩⟩⟩
            · have hbs := ((b2 hg).2 (by omega)).2 (fun z => hs ⟨z.2.1, z.2.2.2⟩)
              rw [hbs, if_neg n0, hf0]
              by_cases d3 : G 4 ≤ I 4
              · have d3' := (tI_le _ _).mp d3
                rw [if_pos d3]
                exact ih (j + 1) 0 (by omega) (by omega) ⟨fun z => by omega, fun _ => ⟨fun z => by omega, fun _ => ⟨fun z => by omega, fun _ => rfl⟩⟩⟩
              · have d3' : ¬ (G 4).toInt ≤ (I 4).toInt := fun z => d3 ((tI_le _ _).mpr z)
                have hjC : j = C := by omega
                rw [if_neg d3]
                exact ih (j + 1) (nI j) (by omega) (by omega) ⟨fun z => by omega, fun _ => ⟨fun z => by omega, fun _ => ⟨fun _ => by rw [hjC], fun z => absurd ⟨hnn, by omega, d1', by omega⟩ z⟩⟩⟩
      · rw [if_neg q] at hv
        have hjC : 0 < (innr (Y 0) (Y 1)).toInt → j ≠ C := fun z e => q (by rw [e]; exact (s2 z).1)
        rw [hv]
        by_cases d1 : G 4 < 0
        · rw [if_pos d1]
          have d1' := (lt0 _).mp d1
          refine ih (j + 1) bs (by omega) (by omega) ⟨fun hg => ⟨fun z => (b1 hg).1 ⟨z.1, by have := hjC z.1; omega, z.2.2⟩, fun z => (b1 hg).2 (fun y => z ⟨y.1, by omega, y.2.2⟩)⟩, fun hg => by omega⟩
        · rw [if_neg d1]
          have hg : 0 ≤ (G 4).toInt := by have : ¬ (G 4).toInt < 0 := fun z => d1 ((lt0 _).mpr z); omega
          by_cases hj0 : j = 0
          · have hbs := (b2 hg).1 hj0
            rw [hbs, if_pos n6]
            refine ih (j + 1) (nI j) (by omega) (by omega) ⟨fun z => by omega, fun _ => ⟨fun z => by omega, fun _ => ⟨fun z => by have := z.2.1; omega, fun _ => by rw [hj0]; rfl⟩⟩⟩
          · by_cases hs : 0 < (innr (Y 0) (Y 1)).toInt ∧ C < j ∧ 0 ≤ (I 4).toInt ∧ (I 4).toInt < (G 4).toInt
            · have hbs := ((b2 hg).2 (by omega)).1 hs
              rw [hbs, if_neg nC, hfC hs.1, if_pos ((tI_le _ _).mpr (by omega))]
              exact ih (j + 1) (nI C) (by omega) (by omega) ⟨fun z => by omega, fun _ => ⟨fun z => by omega, fun _ => ⟨fun _ => rfl, fun z => absurd ⟨hs.1, by omega, hs.2.2⟩ z⟩⟩⟩
            · have hbs := ((b2 hg).2 (by omega)).2 hs
              rw [hbs, if_neg n0, hf0, if_pos ((tI_le _ _).mpr (Int.le_refl _))]
              exact ih (j + 1) 0 (by omega) (by omega) ⟨fun z => by omega, fun _ => ⟨fun z => by omega, fun _ => ⟨fun z => absurd ⟨z.1, by have := hjC z.1; omega, z.2.2⟩ hs, fun _ => rfl⟩⟩⟩
theorem first_eq {Y ru ic wm ga fe dr mn pr hg al sd L G I : Nat → Int32} {w : Int32} (hY : SH Y) (h : LREL Y w ru ic wm ga fe dr mn pr hg al sd L G I) : r_X5_firstOf Y fe w = r_X2_firstVialToFall G I := by
  obtain ⟨hN1, hN2, hNe⟩ := nv_bd hY
  obtain ⟨C, hC1, hC2, eC, -, s2, s3⟩ := shape hY
  obtain ⟨hS, -, ⟨g0, i0, g1, i1, -, -⟩, hG, hI, -, -, -, hz⟩ := h
  have hc := cnt_bd hY
  have hl := first_loop (w := w) hY (fun x hx => (hS x hx).2.2.2.1) hC1 hC2 s2 s3 (fu ((Int32.toInt (r_X5_vials Y)).toNat + 1)) 0 (-6) (Nat.zero_le _) (by rw [fu_eq, hNe, nI_toInt (by omega)]; omega) ⟨fun _ => ⟨fun z => absurd z.2.1 (by omega), fun _ => rfl⟩, fun _ => ⟨fun _ => rfl, fun z => absurd z (by omega)⟩⟩
  rw [nI_0] at hl
  unfold r_X5_firstOf r_X2_firstVialToFall mg_X2_firstToFall_9
  generalize lr_X5_firstOf_5 Y fe w (fu ((Int32.toInt (r_X5_vials Y)).toNat + 1)) (-6) 0 = bs at hl ⊢
  obtain ⟨b1, b2⟩ := hl
  have m6 : ((-6 : Int32)).toInt = -6 := rfl
  have hgn : G 4 = (-6) ↔ (G 4).toInt < 0 := by
    constructor
    · intro z; rw [z]; decide
    · intro z; rcases hG.2 with y | y
      · exact y
      · omega
  have hin : I 4 = (-6) ↔ (I 4).toInt < 0 := by
    constructor
    · intro z; rw [z]; decide
    · intro z; rcases hI.2 with y | y
      · exact y
      · omega
  have hnn : 0 ≤ (I 4).toInt → 0 < (innr (Y 0) (Y 1)).toInt := by
    intro z
    by_cases q : innr (Y 0) (Y 1) = 0
    · have := (hz (i0.trans q)).2
      have := hin.mp this
      omega
    · have : ¬ (innr (Y 0) (Y 1)).toInt = 0 := fun y => q ((tI_eq _ _).mpr y)
      omega
  by_cases a1 : I 4 = (-6)
  · have a1' := hin.mp a1
    rw [if_pos a1, if_pos (by decide)]
    by_cases a2 : G 4 = (-6)
    · rw [if_pos a2]
      exact (b1 (hgn.mp a2)).2 (fun z => by omega)
    · rw [if_neg a2, g1]
      have : ¬ (G 4).toInt < 0 := fun z => a2 (hgn.mpr z)
      exact ((b2 (by omega)).2 (by omega)).2 (fun z => by omega)
  · have a1' : ¬ (I 4).toInt < 0 := fun z => a1 (hin.mpr z)
    have hn := hnn (by omega)
    rw [if_neg a1]
    by_cases a2 : G 4 = (-6)
    · rw [if_pos a2, if_neg (by decide), if_neg a1, i1, eC]
      exact (b1 (hgn.mp a2)).1 ⟨hn, (s2 hn).2, by omega⟩
    · have a2' : ¬ (G 4).toInt < 0 := fun z => a2 (hgn.mpr z)
      rw [if_neg a2]
      by_cases a3 : G 4 ≤ I 4
      · have := (tI_le _ _).mp a3
        rw [if_pos a3, if_pos (by decide), if_neg a2, g1]
        exact ((b2 (by omega)).2 (by omega)).2 (fun z => by omega)
      · have : ¬ (G 4).toInt ≤ (I 4).toInt := fun z => a3 ((tI_le _ _).mpr z)
        rw [if_neg a3, if_neg (by decide), if_neg a1, i1, eC]
        exact ((b2 (by omega)).2 (by omega)).1 ⟨hn, (s2 hn).2, by omega, by omega⟩
