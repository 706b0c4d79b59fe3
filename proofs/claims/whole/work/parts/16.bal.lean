/-! the warmth at which steam and heat balance: both searches find the same -/
theorem divI {a b : Int32} (h : -2147483648 < a.toInt) : (a / b).toInt = a.toInt.tdiv b.toInt :=
  Int32.toInt_div_of_ne_left a b (fun z => by rw [z] at h; exact absurd h (by decide))
theorem vap_eq (t : Int32) : r_X5_vapourAt t = r_X4_vapourAt t := by
  unfold r_X5_vapourAt r_X4_vapourAt r_X5_bend
  have e : ∀ d : Int32, d + 1 + 2 = d + 3 := fun d => by rw [Int32.add_assoc]; rfl
  rw [e]
def vI (z : Int) : Int := (r_X4_vapourAt (Int32.ofInt z)).toInt
theorem vap_tab : ∀ k : Nat, k < 600 → vI ((k : Int) - 600) ≤ vI ((k : Int) - 599) := by decide +kernel
theorem vap_tab2 : ∀ k : Nat, k < 601 → 0 ≤ vI ((k : Int) - 600) ∧ vI ((k : Int) - 600) ≤ 11916 := by decide +kernel
theorem vap_bd {z : Int} (h1 : -600 ≤ z) (h2 : z ≤ 0) : 0 ≤ vI z ∧ vI z ≤ 11916 := by
  have := vap_tab2 (z + 600).toNat (by omega)
  rwa [show (((z + 600).toNat : Nat) : Int) - 600 = z by omega] at this
theorem vap_mono : ∀ (d : Nat) {z : Int}, -600 ≤ z → z + d ≤ 0 → vI z ≤ vI (z + d)
  | 0, z, _, _ => by simp
  | d + 1, z, h1, h2 => by
    have h3 := vap_mono d (z := z) h1 (by omega)
    have h4 := vap_tab (z + d + 600).toNat (by omega)
    rw [show (((z + d + 600).toNat : Nat) : Int) - 600 = z + d by omega, show (((z + d + 600).toNat : Nat) : Int) - 599 = z + ((d + 1 : Nat) : Int) by omega] at h4
    omega
theorem vI_of (t : Int32) : (r_X4_vapourAt t).toInt = vI t.toInt := by
  unfold vI
  rw [Int32.ofInt_toInt]
/-- steam as a number -/
def sI (z p b : Int) : Int := ((if 0 < vI z - p then vI z - p else 0) * 10).tdiv b
theorem steam_val {t b p : Int32} (ht : -600 ≤ t.toInt ∧ t.toInt ≤ 0) (hp : 0 ≤ p.toInt ∧ p.toInt ≤ 20000) (hb : 10 ≤ b.toInt ∧ b.toInt ≤ 6000) : (r_X4_steamAt t b p).toInt = sI t.toInt p.toInt b.toInt := by
  have hv := vap_bd ht.1 ht.2
  have e0 : (0 : Int32).toInt = 0 := rfl
  have e10 : (10 : Int32).toInt = 10 := rfl
  have es : (r_X4_vapourAt t - p).toInt = vI t.toInt - p.toInt := by rw [subI (by rw [vI_of]; omega) (by rw [vI_of]; omega), vI_of]
  unfold r_X4_steamAt r_X4_quotient sI
  rw [if_neg (fun z => by rw [z] at hb; omega)]
  by_cases h : 0 < r_X4_vapourAt t - p
  · have h' := (tI_lt _ _).mp h
    rw [if_pos h, if_pos (by omega)]
    have em : ((r_X4_vapourAt t - p) * 10).toInt = (vI t.toInt - p.toInt) * 10 := by rw [mulI (by rw [e10]; omega) (by rw [e10]; omega), es, e10]
    rw [divI (by omega), em]
  · have h' : ¬ 0 < vI t.toInt - p.toInt := fun z => h ((tI_lt _ _).mpr (by omega))
    rw [if_neg h, if_neg h']
    rw [divI (by decide)]
    rfl
theorem sI_bd {z p b : Int} (hz : -600 ≤ z ∧ z ≤ 0) (hp : 0 ≤ p) (hb : 10 ≤ b) : 0 ≤ sI z p b ∧ sI z p b ≤ 11916 := by
  have hv := vap_bd hz.1 hz.2
  unfold sI
  have h0 : 0 ≤ (if 0 < vI z - p then vI z - p else 0) * 10 ∧ (if 0 < vI z - p then vI z - p else 0) * 10 ≤ 119160 := by
    split <;> omega
  rw [Int.tdiv_eq_ediv_of_nonneg h0.1]
  refine ⟨Int.ediv_nonneg h0.1 (by omega), ?_⟩
  have h1 : ((if 0 < vI z - p then vI z - p else 0) * 10) / b ≤ (119160 : Int) / b := Int.ediv_le_ediv (by omega) h0.2
  have h2 : (119160 : Int) / b ≤ 11916 := by
    apply Int.ediv_le_of_le_mul (by omega)
    omega
  omega
theorem sI_mono {z z2 p b : Int} (h1 : -600 ≤ z) (h2 : z ≤ z2) (h3 : z2 ≤ 0) (hb : 10 ≤ b) : sI z p b ≤ sI z2 p b := by
  have hv := vap_mono (z2 - z).toNat (z := z) h1 (by omega)
  rw [show z + ((z2 - z).toNat : Int) = z2 by omega] at hv
  unfold sI
  apply Int.tdiv_le_tdiv (by omega)
  split <;> split <;> omega
/-- more steam than the heat bears -/
def FF (heat sh b p co t : Int32) : Prop := ((heat * (sh - t)) / 10) < ((r_X4_steamAt t b p) * co)
def FB (heat sh b p co : Int32) : Prop := (1 ≤ heat.toInt ∧ heat.toInt ≤ 100) ∧ (-600 ≤ sh.toInt ∧ sh.toInt ≤ 400) ∧ (10 ≤ b.toInt ∧ b.toInt ≤ 6000) ∧ (0 ≤ p.toInt ∧ p.toInt ≤ 20000) ∧ (1 ≤ co.toInt ∧ co.toInt ≤ 50)
theorem FF_val {heat sh b p co t : Int32} (h : FB heat sh b p co) (ht : -600 ≤ t.toInt ∧ t.toInt ≤ 0) : FF heat sh b p co t ↔ (heat.toInt * (sh.toInt - t.toInt)).tdiv 10 < sI t.toInt p.toInt b.toInt * co.toInt := by
  obtain ⟨hh, hs, hb, hp, hc⟩ := h
  have e10 : (10 : Int32).toInt = 10 := rfl
  have e1 : (sh - t).toInt = sh.toInt - t.toInt := subI (by omega) (by omega)
  have hm : -100000 ≤ heat.toInt * (sh.toInt - t.toInt) ∧ heat.toInt * (sh.toInt - t.toInt) ≤ 100000 := by
    rcases Int.le_total 0 (sh.toInt - t.toInt) with z | z
    · have := mul_bd (x := heat.toInt) (y := sh.toInt - t.toInt) (a := 100) (b := 1000) (by omega) (by omega) z (by omega)
      omega
    · have := mul_bd (x := heat.toInt) (y := -(sh.toInt - t.toInt)) (a := 100) (b := 1000) (by omega) (by omega) (by omega) (by omega)
      rw [Int.mul_neg] at this
      omega
  have e2 : (heat * (sh - t)).toInt = heat.toInt * (sh.toInt - t.toInt) := by rw [mulI (by rw [e1]; omega) (by rw [e1]; omega), e1]
  have e3 : ((heat * (sh - t)) / 10).toInt = (heat.toInt * (sh.toInt - t.toInt)).tdiv 10 := by rw [divI (by omega), e2, e10]
  have sv := steam_val ht hp hb
  have sb := sI_bd ht hp.1 hb.1
  have sm := mul_bd (x := sI t.toInt p.toInt b.toInt) (y := co.toInt) (a := 11916) (b := 50) sb.1 sb.2 (by omega) hc.2
  have e4 : ((r_X4_steamAt t b p) * co).toInt = sI t.toInt p.toInt b.toInt * co.toInt := by rw [mulI (by rw [sv]; omega) (by rw [sv]; omega), sv]
  unfold FF
  rw [tI_lt, e3, e4]
theorem FF_mono {heat sh b p co t u : Int32} (h : FB heat sh b p co) (ht : -600 ≤ t.toInt) (htu : t.toInt ≤ u.toInt) (hu : u.toInt ≤ 0) (hF : FF heat sh b p co t) : FF heat sh b p co u := by
  have h1 := (FF_val h ⟨ht, by omega⟩).mp hF
  refine (FF_val h ⟨by omega, hu⟩).mpr ?_
  obtain ⟨hh, hs, hb, hp, hc⟩ := h
  have a1 : (heat.toInt * (sh.toInt - u.toInt)).tdiv 10 ≤ (heat.toInt * (sh.toInt - t.toInt)).tdiv 10 := Int.tdiv_le_tdiv (by omega) (Int.mul_le_mul_of_nonneg_left (by omega) (by omega))
  have a2 : sI t.toInt p.toInt b.toInt * co.toInt ≤ sI u.toInt p.toInt b.toInt * co.toInt := Int.mul_le_mul_of_nonneg_right (sI_mono ht htu hu hb.1) (by omega)
  omega
/-- t is the answer: nothing fails at it, and it fails d above it -/
def BI (F : Int32 → Prop) (d : Int) (t : Int32) : Prop := (-600 ≤ t.toInt ∧ t.toInt ≤ 0) ∧ (t.toInt = -600 ∨ ¬ F t) ∧ (0 < t.toInt + d ∨ ∀ u : Int32, u.toInt = t.toInt + d → F u)
theorem BI_one {F : Int32 → Prop} (hF : ∀ t u : Int32, -600 ≤ t.toInt → t.toInt ≤ u.toInt → u.toInt ≤ 0 → F t → F u) {t u : Int32} (ht : BI F 1 t) (hu : BI F 1 u) : t = u := by
  have key : ∀ {t u : Int32}, BI F 1 t → BI F 1 u → ¬ t.toInt < u.toInt := by
    intro t u ht hu hlt
    obtain ⟨b1, -, c1⟩ := ht
    obtain ⟨b2, a2, -⟩ := hu
    rcases a2 with a2 | a2
    · omega
    · rcases c1 with c1 | c1
      · omega
      · have e : (t + 1).toInt = t.toInt + 1 := addI (by have e1 : (1 : Int32).toInt = 1 := rfl; omega) (by have e1 : (1 : Int32).toInt = 1 := rfl; omega)
        exact a2 (hF (t + 1) u (by omega) (by omega) b2.2 (c1 _ e))
  have h1 := key ht hu
  have h2 := key hu ht
  exact (tI_eq t u).mpr (by omega)
theorem bal_step {G : Nat → Int32} {sh bs p0 co t st : Int32} {S : Int} (hs : st.toInt = S) (h1 : 1 ≤ S) (h2 : S ≤ 512) (h : BI (FF (G 5) sh bs p0 co) (2 * S) t) : BI (FF (G 5) sh bs p0 co) S (mg_X0_balance_24 G sh bs p0 co t st) := by
  obtain ⟨hb, ha, hc⟩ := h
  have e : (t + st).toInt = t.toInt + S := by rw [addI (by omega) (by omega), hs]
  have e0 : (0 : Int32).toInt = 0 := rfl
  unfold mg_X0_balance_24
  by_cases c1 : 0 < t + st
  · rw [if_pos c1]
    have := (tI_lt _ _).mp c1
    exact ⟨hb, ha, Or.inl (by omega)⟩
  · rw [if_neg c1]
    have c1' : ¬ 0 < t.toInt + S := fun z => c1 ((tI_lt _ _).mpr (by omega))
    by_cases c2 : (((G 5) * (sh - (t + st))) / 10) < ((r_X4_steamAt (t + st) bs p0) * co)
    · rw [if_pos c2]
      refine ⟨hb, ha, Or.inr (fun u hu => ?_)⟩
      have : u = t + st := (tI_eq _ _).mpr (by omega)
      rw [this]; exact c2
    · rw [if_neg c2]
      refine ⟨by omega, Or.inr c2, ?_⟩
      rcases hc with hc | hc
      · left; omega
      · right; intro u hu; exact hc u (by omega)
theorem bal_go {G : Nat → Int32} {sh bs p0 co t st : Int32} {n : Nat} (c : ¬ st ≤ 0) : lr_X0_balance_10 G sh bs p0 co (n + 1) t st = lr_X0_balance_10 G sh bs p0 co n (mg_X0_balance_24 G sh bs p0 co t st) (st / 2) := by
  rw [lr_X0_balance_10, if_neg c]
theorem bal_end {G : Nat → Int32} {sh bs p0 co t : Int32} {n : Nat} : lr_X0_balance_10 G sh bs p0 co (n + 1) t 0 = t := by
  rw [lr_X0_balance_10, if_pos (by decide)]
theorem bal_is (G : Nat → Int32) (sh bs p0 co : Int32) : BI (FF (G 5) sh bs p0 co) 1 (r_X0_balance G sh bs p0 co) := by
  unfold r_X0_balance
  rw [fu_eq, show (513 : Nat) = 502 + 11 from rfl]
  have h0 : BI (FF (G 5) sh bs p0 co) (2 * 512) (-600) := ⟨by decide, Or.inl (by decide), Or.inl (by decide)⟩
  have h1 := bal_step (st := 512) (S := 512) rfl (by decide) (by decide) h0
  have h2 := bal_step (st := 256) (S := 256) rfl (by decide) (by decide) h1
  have h3 := bal_step (st := 128) (S := 128) rfl (by decide) (by decide) h2
  have h4 := bal_step (st := 64) (S := 64) rfl (by decide) (by decide) h3
  have h5 := bal_step (st := 32) (S := 32) rfl (by decide) (by decide) h4
  have h6 := bal_step (st := 16) (S := 16) rfl (by decide) (by decide) h5
  have h7 := bal_step (st := 8) (S := 8) rfl (by decide) (by decide) h6
  have h8 := bal_step (st := 4) (S := 4) rfl (by decide) (by decide) h7
  have h9 := bal_step (st := 2) (S := 2) rfl (by decide) (by decide) h8
  have hA := bal_step (st := 1) (S := 1) rfl (by decide) (by decide) h9
  rw [bal_go (by decide), show (512 : Int32) / 2 = 256 from by decide, bal_go (by decide), show (256 : Int32) / 2 = 128 from by decide, bal_go (by decide), show (128 : Int32) / 2 = 64 from by decide, bal_go (by decide), show (64 : Int32) / 2 = 32 from by decide, bal_go (by decide), show (32 : Int32) / 2 = 16 from by decide, bal_go (by decide), show (16 : Int32) / 2 = 8 from by decide, bal_go (by decide), show (8 : Int32) / 2 = 4 from by decide, bal_go (by decide), show (4 : Int32) / 2 = 2 from by decide, bal_go (by decide), show (2 : Int32) / 2 = 1 from by decide, bal_go (by decide), show (1 : Int32) / 2 = 0 from by decide, bal_end]
  exact hA
/-- the reference's search -/
theorem war_is {Y ru ic pr : Nat → Int32} {w k sh : Int32} (F : Int32 → Prop) (hF : ∀ t : Int32, -600 ≤ t.toInt → t.toInt ≤ 0 → (r_X5_holds Y ru ic pr w k t sh = 0 ↔ F t)) : ∀ (n : Nat) (lo hi : Int32), (-600 ≤ lo.toInt ∧ lo.toInt ≤ hi.toInt ∧ hi.toInt ≤ 0) → (hi.toInt - lo.toInt).toNat < n → (lo.toInt = -600 ∨ ¬ F lo) → (hi.toInt = 0 ∨ ∀ u : Int32, u.toInt = hi.toInt + 1 → F u) → BI F 1 (lr_X5_warmthOf_8 Y ru ic pr w k sh n lo hi) := by
  intro n
  induction n with
  | zero => intro lo hi _ h; exact absurd h (Nat.not_lt_zero _)
  | succ n ih =>
    intro lo hi hb hm h1 h2
    rw [lr_X5_warmthOf_8]
    by_cases c1 : hi ≤ lo
    · rw [if_pos c1]
      have c1' := (tI_le _ _).mp c1
      refine ⟨by omega, h1, ?_⟩
      rcases h2 with h2 | h2
      · left; omega
      · right; intro u hu; exact h2 u (by omega)
    · rw [if_neg c1]
      have c1' : ¬ hi.toInt ≤ lo.toInt := fun z => c1 ((tI_le _ _).mpr z)
      have em := mid_in hb c1
      have eh := mid_hi_eq hb c1
      by_cases c2 : r_X5_holds Y ru ic pr w k (lo + (((hi - lo) + 1) / 2)) sh = 0
      · rw [if_pos c2]
        refine ih _ _ (mid_hi_in hb c1) (mid_hi hb c1 hm) h1 (Or.inr (fun u hu => ?_))
        have : u = lo + (((hi - lo) + 1) / 2) := (tI_eq _ _).mpr (by omega)
        rw [this]
        exact (hF _ (by omega) (by omega)).mp c2
      · rw [if_neg c2]
        exact ih _ _ (mid_lo_in hb c1) (mid_lo hb c1 hm) (Or.inr (fun z => c2 ((hF _ (by omega) (by omega)).mpr z))) h2
