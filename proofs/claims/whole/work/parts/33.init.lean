def adr16 (c0 c2 c6 c7 c8 c9 c10 c11 c12 c13 c14 c15 c16 c17 c18 c20 : Nat) : Nat → Nat
  | 0 => c0
  | 2 => c2
  | 6 => c6
  | 7 => c7
  | 8 => c8
  | 9 => c9
  | 10 => c10
  | 11 => c11
  | 12 => c12
  | 13 => c13
  | 14 => c14
  | 15 => c15
  | 16 => c16
  | 17 => c17
  | 18 => c18
  | _ => c20
theorem init_R : (va_cpy fFIRST (fun _ => 0) 0 0 11) = (upd (upd (upd (upd (upd (upd (upd (upd (upd (upd (upd (fun _ => 0) 0 1000) 1 10) 2 3) 3 20) 4 100) 5 5) 6 (-200)) 7 300) 8 5) 9 20) 10 10) := by
  funext j
  unfold va_cpy
  by_cases h : j < 11
  · rw [if_pos (by omega)]
    rcases (by omega : j = 0 ∨ j = 1 ∨ j = 2 ∨ j = 3 ∨ j = 4 ∨ j = 5 ∨ j = 6 ∨ j = 7 ∨ j = 8 ∨ j = 9 ∨ j = 10) with rfl | rfl | rfl | rfl | rfl | rfl | rfl | rfl | rfl | rfl | rfl <;> rfl
  · rw [if_neg (by omega)]
    rw [pk_un (by omega), pk_un (by omega), pk_un (by omega), pk_un (by omega), pk_un (by omega), pk_un (by omega), pk_un (by omega), pk_un (by omega), pk_un (by omega), pk_un (by omega), pk_un (by omega)]
theorem init_rel : REL (x10 2 3 (-400) 100 0 0) (va_cpy fFIRST (fun _ => 0) 0 0 11) (fun _ => 0) (fun _ => 0) (fun _ => 0) (fun _ => 0) (fun _ => 0) (fun _ => 0) (fun _ => 0) (fun _ => 0) (fun _ => 0) (y21 2 3 0 (-400) 100 0) (upd (upd (upd (upd (upd (upd (upd (upd (upd (upd (upd (fun _ => 0) 0 1000) 1 10) 2 3) 3 20) 4 100) 5 5) 6 (-200)) 7 300) 8 5) 9 20) 10 10) (fun _ => 0) (fun _ => 0) (fun _ => 0) (fun _ => 0) (fun _ => 0) (fun _ => 0) (fun _ => 0) (fun _ => 0) (fun _ => 0) (fun _ => 0) (fun _ => 0) (fun _ => 0) (fun _ => 0) (fun _ => 0) := by
  refine ⟨⟨init_R, ?_, ?_⟩, ⟨rfl, rfl, rfl, rfl, rfl, rfl⟩, ?_, ⟨rfl, ?_⟩, fun z => absurd rfl z, ⟨fun _ _ => rfl, fun _ _ => rfl, rfl⟩, fun z => absurd rfl z⟩
  · unfold RB; decide
  · unfold SH; decide
  · decide
  · decide
set_option maxHeartbeats 4000000 in
set_option maxRecDepth 100000 in
theorem law_LEAST {s : State} {b : Nat} (hts : ∀ w ∈ lw_tbl, w.before #[Value.ref b] s = true) (hgv : (Jvm.Cond.and given_1 narrow_1).before #[Value.ref b] s = true) : ZA "LEAST" fLEAST (fun q : Nat => s.heap.size ≤ q) s s.heap := by
  have hs := flat_of_before _ hgv
  have hA : ∀ a : Nat, a < s.heap.size → ¬ (fun q : Nat => s.heap.size ≤ q) a := fun a h => Nat.not_le.mpr h
  obtain ⟨t, ht, hT⟩ := va_Tof (tm := (Term.static "ColdDryer$Rules" "LEAST" "[I")) (ty := .int) (N := 11) (f := fun j => .int (fLEAST j)) (A := fun q : Nat => s.heap.size ≤ q) (by decide) (hs (Cond.arrayOf (Term.static "ColdDryer$Rules" "LEAST" "[I") .int) (by decide +kernel)) (va_eqt (hs (Cond.eq (Term.length (Term.static "ColdDryer$Rules" "LEAST" "[I")) (Term.int 11)) (by decide +kernel))) (fun j hj => by
      rcases (by omega : j = 0 ∨ j = 1 ∨ j = 2 ∨ j = 3 ∨ j = 4 ∨ j = 5 ∨ j = 6 ∨ j = 7 ∨ j = 8 ∨ j = 9 ∨ j = 10) with rfl | rfl | rfl | rfl | rfl | rfl | rfl | rfl | rfl | rfl | rfl
      · exact va_eqt (hs (Cond.eq (Term.elem (Term.static "ColdDryer$Rules" "LEAST" "[I") (Term.int 0)) (Term.int 100)) (by decide +kernel))
      · exact va_eqt (hs (Cond.eq (Term.elem (Term.static "ColdDryer$Rules" "LEAST" "[I") (Term.int 1)) (Term.int 1)) (by decide +kernel))
      · exact va_eqt (hs (Cond.eq (Term.elem (Term.static "ColdDryer$Rules" "LEAST" "[I") (Term.int 2)) (Term.int 0)) (by decide +kernel))
      · exact va_eqt (hs (Cond.eq (Term.elem (Term.static "ColdDryer$Rules" "LEAST" "[I") (Term.int 3)) (Term.int 1)) (by decide +kernel))
      · exact va_eqt (hs (Cond.eq (Term.elem (Term.static "ColdDryer$Rules" "LEAST" "[I") (Term.int 4)) (Term.int 10)) (by decide +kernel))
      · exact va_eqt (hs (Cond.eq (Term.elem (Term.static "ColdDryer$Rules" "LEAST" "[I") (Term.int 5)) (Term.int 0)) (by decide +kernel))
      · exact va_eqt (hs (Cond.eq (Term.elem (Term.static "ColdDryer$Rules" "LEAST" "[I") (Term.int 6)) (Term.int (-600))) (by decide +kernel))
      · exact va_eqt (hs (Cond.eq (Term.elem (Term.static "ColdDryer$Rules" "LEAST" "[I") (Term.int 7)) (Term.int 1)) (by decide +kernel))
      · exact va_eqt (hs (Cond.eq (Term.elem (Term.static "ColdDryer$Rules" "LEAST" "[I") (Term.int 8)) (Term.int 1)) (by decide +kernel))
      · exact va_eqt (hs (Cond.eq (Term.elem (Term.static "ColdDryer$Rules" "LEAST" "[I") (Term.int 9)) (Term.int 1)) (by decide +kernel))
      · exact va_eqt (hs (Cond.eq (Term.elem (Term.static "ColdDryer$Rules" "LEAST" "[I") (Term.int 10)) (Term.int 1)) (by decide +kernel))) hA
  exact ⟨t, va_Zref (hts (Cond.laysStatic RX3 "LEAST" "[I") (List.mem_append_right _ (List.mem_append_left _ (List.mem_of_getElem? (i := 175) rfl)))) (hts _ (wsG_in _ wd_1_2)) ht hA, hT⟩
set_option maxHeartbeats 4000000 in
set_option maxRecDepth 100000 in
theorem law_MOST {s : State} {b : Nat} (hts : ∀ w ∈ lw_tbl, w.before #[Value.ref b] s = true) (hgv : (Jvm.Cond.and given_1 narrow_1).before #[Value.ref b] s = true) : ZA "MOST" fMOST (fun q : Nat => s.heap.size ≤ q) s s.heap := by
  have hs := flat_of_before _ hgv
  have hA : ∀ a : Nat, a < s.heap.size → ¬ (fun q : Nat => s.heap.size ≤ q) a := fun a h => Nat.not_le.mpr h
  obtain ⟨t, ht, hT⟩ := va_Tof (tm := (Term.static "ColdDryer$Rules" "MOST" "[I")) (ty := .int) (N := 11) (f := fun j => .int (fMOST j)) (A := fun q : Nat => s.heap.size ≤ q) (by decide) (hs (Cond.arrayOf (Term.static "ColdDryer$Rules" "MOST" "[I") .int) (by decide +kernel)) (va_eqt (hs (Cond.eq (Term.length (Term.static "ColdDryer$Rules" "MOST" "[I")) (Term.int 11)) (by decide +kernel))) (fun j hj => by
      rcases (by omega : j = 0 ∨ j = 1 ∨ j = 2 ∨ j = 3 ∨ j = 4 ∨ j = 5 ∨ j = 6 ∨ j = 7 ∨ j = 8 ∨ j = 9 ∨ j = 10) with rfl | rfl | rfl | rfl | rfl | rfl | rfl | rfl | rfl | rfl | rfl
      · exact va_eqt (hs (Cond.eq (Term.elem (Term.static "ColdDryer$Rules" "MOST" "[I") (Term.int 0)) (Term.int 5000)) (by decide +kernel))
      · exact va_eqt (hs (Cond.eq (Term.elem (Term.static "ColdDryer$Rules" "MOST" "[I") (Term.int 1)) (Term.int 50)) (by decide +kernel))
      · exact va_eqt (hs (Cond.eq (Term.elem (Term.static "ColdDryer$Rules" "MOST" "[I") (Term.int 2)) (Term.int 50)) (by decide +kernel))
      · exact va_eqt (hs (Cond.eq (Term.elem (Term.static "ColdDryer$Rules" "MOST" "[I") (Term.int 3)) (Term.int 50)) (by decide +kernel))
      · exact va_eqt (hs (Cond.eq (Term.elem (Term.static "ColdDryer$Rules" "MOST" "[I") (Term.int 4)) (Term.int 1000)) (by decide +kernel))
      · exact va_eqt (hs (Cond.eq (Term.elem (Term.static "ColdDryer$Rules" "MOST" "[I") (Term.int 5)) (Term.int 50)) (by decide +kernel))
      · exact va_eqt (hs (Cond.eq (Term.elem (Term.static "ColdDryer$Rules" "MOST" "[I") (Term.int 6)) (Term.int 0)) (by decide +kernel))
      · exact va_eqt (hs (Cond.eq (Term.elem (Term.static "ColdDryer$Rules" "MOST" "[I") (Term.int 7)) (Term.int 10000)) (by decide +kernel))
      · exact va_eqt (hs (Cond.eq (Term.elem (Term.static "ColdDryer$Rules" "MOST" "[I") (Term.int 8)) (Term.int 100)) (by decide +kernel))
      · exact va_eqt (hs (Cond.eq (Term.elem (Term.static "ColdDryer$Rules" "MOST" "[I") (Term.int 9)) (Term.int 500)) (by decide +kernel))
      · exact va_eqt (hs (Cond.eq (Term.elem (Term.static "ColdDryer$Rules" "MOST" "[I") (Term.int 10)) (Term.int 1000)) (by decide +kernel))) hA
  exact ⟨t, va_Zref (hts (Cond.laysStatic RX3 "MOST" "[I") (List.mem_append_right _ (List.mem_append_left _ (List.mem_of_getElem? (i := 177) rfl)))) (hts _ (wsG_in _ wd_1_2)) ht hA, hT⟩
set_option maxHeartbeats 4000000 in
set_option maxRecDepth 100000 in
theorem law_AT_FIRST {s : State} {b : Nat} (hts : ∀ w ∈ lw_tbl, w.before #[Value.ref b] s = true) (hgv : (Jvm.Cond.and given_1 narrow_1).before #[Value.ref b] s = true) : ZA "AT_FIRST" fFIRST (fun q : Nat => s.heap.size ≤ q) s s.heap := by
  have hs := flat_of_before _ hgv
  have hA : ∀ a : Nat, a < s.heap.size → ¬ (fun q : Nat => s.heap.size ≤ q) a := fun a h => Nat.not_le.mpr h
  obtain ⟨t, ht, hT⟩ := va_Tof (tm := (Term.static "ColdDryer$Rules" "AT_FIRST" "[I")) (ty := .int) (N := 11) (f := fun j => .int (fFIRST j)) (A := fun q : Nat => s.heap.size ≤ q) (by decide) (hs (Cond.arrayOf (Term.static "ColdDryer$Rules" "AT_FIRST" "[I") .int) (by decide +kernel)) (va_eqt (hs (Cond.eq (Term.length (Term.static "ColdDryer$Rules" "AT_FIRST" "[I")) (Term.int 11)) (by decide +kernel))) (fun j hj => by
      rcases (by omega : j = 0 ∨ j = 1 ∨ j = 2 ∨ j = 3 ∨ j = 4 ∨ j = 5 ∨ j = 6 ∨ j = 7 ∨ j = 8 ∨ j = 9 ∨ j = 10) with rfl | rfl | rfl | rfl | rfl | rfl | rfl | rfl | rfl | rfl | rfl
      · exact va_eqt (hs (Cond.eq (Term.elem (Term.static "ColdDryer$Rules" "AT_FIRST" "[I") (Term.int 0)) (Term.int 1000)) (by decide +kernel))
      · exact va_eqt (hs (Cond.eq (Term.elem (Term.static "ColdDryer$Rules" "AT_FIRST" "[I") (Term.int 1)) (Term.int 10)) (by decide +kernel))
      · exact va_eqt (hs (Cond.eq (Term.elem (Term.static "ColdDryer$Rules" "AT_FIRST" "[I") (Term.int 2)) (Term.int 3)) (by decide +kernel))
      · exact va_eqt (hs (Cond.eq (Term.elem (Term.static "ColdDryer$Rules" "AT_FIRST" "[I") (Term.int 3)) (Term.int 20)) (by decide +kernel))
      · exact va_eqt (hs (Cond.eq (Term.elem (Term.static "ColdDryer$Rules" "AT_FIRST" "[I") (Term.int 4)) (Term.int 100)) (by decide +kernel))
      · exact va_eqt (hs (Cond.eq (Term.elem (Term.static "ColdDryer$Rules" "AT_FIRST" "[I") (Term.int 5)) (Term.int 5)) (by decide +kernel))
      · exact va_eqt (hs (Cond.eq (Term.elem (Term.static "ColdDryer$Rules" "AT_FIRST" "[I") (Term.int 6)) (Term.int (-200))) (by decide +kernel))
      · exact va_eqt (hs (Cond.eq (Term.elem (Term.static "ColdDryer$Rules" "AT_FIRST" "[I") (Term.int 7)) (Term.int 300)) (by decide +kernel))
      · exact va_eqt (hs (Cond.eq (Term.elem (Term.static "ColdDryer$Rules" "AT_FIRST" "[I") (Term.int 8)) (Term.int 5)) (by decide +kernel))
      · exact va_eqt (hs (Cond.eq (Term.elem (Term.static "ColdDryer$Rules" "AT_FIRST" "[I") (Term.int 9)) (Term.int 20)) (by decide +kernel))
      · exact va_eqt (hs (Cond.eq (Term.elem (Term.static "ColdDryer$Rules" "AT_FIRST" "[I") (Term.int 10)) (Term.int 10)) (by decide +kernel))) hA
  exact ⟨t, va_Zref (hts (Cond.laysStatic RX3 "AT_FIRST" "[I") (List.mem_append_right _ (List.mem_append_left _ (List.mem_of_getElem? (i := 24) rfl)))) (hts _ (wsG_in _ wd_1_2)) ht hA, hT⟩
