/-! ===== one list of words for all methods; what a method's start and end are; the call, once ===== -/
def fLEAST : Nat → Int32 := fun k => ([100, 1, 0, 1, 10, 0, -600, 1, 1, 1, 1] : List Int32).getD k 0
def fMOST : Nat → Int32 := fun k => ([5000, 50, 50, 50, 1000, 50, 0, 10000, 100, 500, 1000] : List Int32).getD k 0
def fFIRST : Nat → Int32 := fun k => ([1000, 10, 3, 20, 100, 5, -200, 300, 5, 20, 10] : List Int32).getD k 0
/-- the links to private methods of nest mates -/
def NL (U : State) : Prop := va_Nw (.methodLinkNest RX0 42 yX4_quotient RX4) U ∧ va_Nw (.methodLinkNest RX0 53 yX4_steamAt RX4) U ∧ va_Nw (.methodLinkNest RX1 49 yX4_within RX4) U ∧ va_Nw (.methodLinkNest RX2 11 yX0_init RX4) U ∧ va_Nw (.methodLinkNest RX2 67 yX4_quotient RX4) U ∧ va_Nw (.methodLinkNest RX3 22 yX4_within RX4) U
theorem NL.warm {s U : State} (hW : s.WarmedH U.vm) (h : NL s) : NL U := ⟨va_Nw.warmM hW h.1, va_Nw.warmM hW h.2.1, va_Nw.warmM hW h.2.2.1, va_Nw.warmM hW h.2.2.2.1, va_Nw.warmM hW h.2.2.2.2.1, va_Nw.warmM hW h.2.2.2.2.2⟩
theorem NL.same {u U : State} (e : u.vm = U.vm) (h : NL u) : NL U := ⟨va_Nw.same rfl e h.1, va_Nw.same rfl e h.2.1, va_Nw.same rfl e h.2.2.1, va_Nw.same rfl e h.2.2.2.1, va_Nw.same rfl e h.2.2.2.2.1, va_Nw.same rfl e h.2.2.2.2.2⟩
/-- a static row of eleven ints that nobody writes -/
def ZA (n : String) (f : Nat → Int32) (A : Nat → Prop) (U : State) (H : Heap) : Prop := ∃ a : Nat, va_Z RX3 n "[I" (.ref a) A U H ∧ va_T .int a 11 (fun j => .int (f j)) A U H
def ZZ (A : Nat → Prop) (U : State) (H : Heap) : Prop := ZA "LEAST" fLEAST A U H ∧ ZA "MOST" fMOST A U H ∧ ZA "AT_FIRST" fFIRST A U H
theorem ZA.moved {n : String} {f : Nat → Int32} {A : Nat → Prop} {u U : State} {H : Heap} (hvm : u.vm.Alike U.vm) (h : ZA n f A u H) : ZA n f A U H := by
  obtain ⟨a, h1, h2⟩ := h
  exact ⟨a, h1.moved hvm, h2.moved hvm⟩
theorem ZA.kept {n : String} {f : Nat → Int32} {A : Nat → Prop} {U : State} {H H1 : Heap} (h : ZA n f A U H) (_ : H.size ≤ H1.size) (hq : ∀ a : Nat, a < H.size → ¬ A a → H1[a]? = H[a]?) : ZA n f A U H1 := by
  obtain ⟨a, h1, h2⟩ := h
  exact ⟨a, h1.kept hq, h2.kept hq⟩
theorem ZA.narrow {n : String} {f : Nat → Int32} {A B : Nat → Prop} {U : State} {H : Heap} (h : ZA n f A U H) (hAB : ∀ q, B q → A q) : ZA n f B U H := by
  obtain ⟨a, h1, h2⟩ := h
  exact ⟨a, h1.narrow hAB, h2.narrow hAB⟩
theorem ZZ.moved {A : Nat → Prop} {u U : State} {H : Heap} (hvm : u.vm.Alike U.vm) (h : ZZ A u H) : ZZ A U H := ⟨h.1.moved hvm, h.2.1.moved hvm, h.2.2.moved hvm⟩
theorem ZZ.kept {A : Nat → Prop} {U : State} {H H1 : Heap} (h : ZZ A U H) (hz : H.size ≤ H1.size) (hq : ∀ a : Nat, a < H.size → ¬ A a → H1[a]? = H[a]?) : ZZ A U H1 := ⟨h.1.kept hz hq, h.2.1.kept hz hq, h.2.2.kept hz hq⟩
theorem ZZ.narrow {A B : Nat → Prop} {U : State} {H : Heap} (h : ZZ A U H) (hAB : ∀ q, B q → A q) : ZZ B U H := ⟨h.1.narrow hAB, h.2.1.narrow hAB, h.2.2.narrow hAB⟩
/-- a method's start: its world, the tables, the nest links, the static rows -/
def PRE (D : va_G) (cI : ClassId) (W0 : va_W) (sz : Nat) (U : State) : Prop := U.heap.size = sz ∧ va_P D vwCl W0 U.heap ∧ va_K D vwCl [(cI, .int)] U ∧ va_D (fun _ => True) W0 ∧ NL U ∧ ZZ (va_A W0 sz) U U.heap
theorem PRE.blind {As : List Value} {D : va_G} {cI : ClassId} {W0 : va_W} {sz : Nat} : FrameBlind (va_Pc As (PRE D cI W0 sz)) := fun a U g mk q => by
  obtain ⟨q0, q1, qP, qK, qD, qN, qZ⟩ := q
  exact ⟨q0, q1, qP, va_K.moved (u := U) (U := U.calling g mk a) (Vm.Alike.refl U.vm) qK, qD, NL.same (u := U) (U := U.calling g mk a) rfl qN, ZZ.moved (u := U) (U := U.calling g mk a) (Vm.Alike.refl U.vm) qZ⟩
abbrev RM (fr lo : Nat) : Room := { frames := fr, cells := 0, slots := 0, locals := lo }
abbrev wsA (y : MethodName) (cc : ByteArray) (n : Nat) (ret : Option FieldType) : List Cond := .code y cc n ret :: wsG
/-- contracts of methods that make nothing: an int (or boolean), nothing, a reference comes back -/
def MI (l : Launch) (D : va_G) (cI : ClassId) (y : MethodName) (cc : ByteArray) (n : Nat) (ret : Option FieldType) (fr lo : Nat) (As : List Value) (W0 : va_W) (r : Int32) (W1 : va_W) : Prop :=
  ∀ sz : Nat, Met l y (wsA y cc n ret) (RM fr lo) (va_Pc As (PRE D cI W0 sz)) (va_Qi (fun r' (_ : Unit) => r' = r) (fun _ t => va_P D vwCl W1 t.heap) (va_A W0 sz)) 0 0 (va_A W0 sz)
def MV (l : Launch) (D : va_G) (cI : ClassId) (y : MethodName) (cc : ByteArray) (n : Nat) (fr lo : Nat) (As : List Value) (W0 W1 : va_W) : Prop :=
  ∀ sz : Nat, Met l y (wsA y cc n none) (RM fr lo) (va_Pc As (PRE D cI W0 sz)) (va_Qv (fun _ : Unit => True) (fun _ t => va_P D vwCl W1 t.heap) (va_A W0 sz)) 0 0 (va_A W0 sz)
def MR (l : Launch) (D : va_G) (cI : ClassId) (y : MethodName) (cc : ByteArray) (n : Nat) (ret : Option FieldType) (fr lo : Nat) (As : List Value) (W0 : va_W) (r : Nat) (W1 : va_W) : Prop :=
  ∀ sz : Nat, Met l y (wsA y cc n ret) (RM fr lo) (va_Pc As (PRE D cI W0 sz)) (va_Qr (fun _ : Unit => True) (fun _ a t => a = r ∧ va_P D vwCl W1 t.heap) (va_A W0 sz)) 0 0 (va_A W0 sz)
abbrev Ctx (p : Program) (s : State) (m : MethodId) (args : Array Value) (c : Code) (cc : ByteArray) (nL : Nat) (own : String) (D : va_G) (cI : ClassId) (A : Nat → Prop) : Prop :=
  CallFix p m c cc nL s args wsG own ∧ va_K D vwCl [(cI, .int)] s ∧ NL s ∧ ZZ A s s.heap ∧ ∀ q : Nat, s.heap.size ≤ q → A q
theorem nb {r : Int32} (h : r = 0 ∨ r = 1) : narrow .boolean (.int r) = .int r := by
  rcases h with rfl | rfl <;> rfl
theorem MI.mk {l : Launch} {D : va_G} {cI : ClassId} {y : MethodName} {cc : ByteArray} {n : Nat} {ty : FieldType} {fr lo : Nat} {As : List Value} {W0 : va_W} {r : Int32} {W1 : va_W} {own : String} (ho : y.cls = own) (hy : plainName y.cls = true) (hn : narrow ty (.int r) = .int r) (hA : (lg_sl As).length ≤ n)
    (body : ∀ (p : Program) (e : Env) (s : State) (m : MethodId) (args : Array Value) (below : List Frame) (meth : Method) (c : Code) (A : Nat → Prop) (Q : State → Prop), Ctx p s m args c cc n own D cI A → va_D A W0 →
      (∀ (x : Int32) (H : Heap) (locs : List Loc) (pc : Nat) (ls : Array Slot), x = r → va_P D vwCl W1 H → va_S A s.heap H locs → decode cc pc = .ok (.ireturn, 1) → W p l e (RM fr lo) s m args below meth c H locs 0 0 Q (F0 m pc ls [.int x])) →
      ∀ (H : Heap) (locs : List Loc) (ls : Array Slot), va_P D vwCl W0 H → va_S A s.heap H locs → lv_has ls n (lv_args 0 As) → W p l e (RM fr lo) s m args below meth c H locs 0 0 Q (F0 m 0 ls [])) : MI l D cI y cc n (some ty) fr lo As W0 r W1 := by
  intro sz
  refine Met.ofW (cc := cc) (maxL := n) (ret := some ty) hy rfl ?_
  intro p e s m args below meth c s₁ B hml hv
  obtain ⟨rfl, hsz, hP, hK, hD0, hN, hZ⟩ := hv
  have hts := atoms_spec (ws := wsA y cc n (some ty)) B.pre
  have hown : s.vm.findClass y.cls = some m.cls := findClass_of_methodNamed B.named
  subst hsz
  have hD := hD0.self (sz := s.heap.size)
  have hl := lv_entry As (n := n) hA
  rw [lg_entry_eq]
  exact body p e s m As.toArray below meth c (va_A W0 s.heap.size) _ ⟨⟨B.exec, B.bytes, hml, ho ▸ hown, fun w h => hts w (List.mem_cons_of_mem _ h)⟩, hK, hN, hZ, fun q h => Or.inr h⟩ hD (fun x H locs pc ls hx hP1 hS hd => by
    subst hx
    exact W.zret B.exec B.bytes B.returns hn (fun t ht hW => ⟨⟨_, (), rfl, rfl, by show va_P D vwCl W1 t.heap; rw [ht]; exact hP1⟩, hS.F ht⟩) hS.2.2 hd B.notSynchronized) _ _ _ hP va_S.rf hl
theorem MV.mk {l : Launch} {D : va_G} {cI : ClassId} {y : MethodName} {cc : ByteArray} {n : Nat} {fr lo : Nat} {As : List Value} {W0 W1 : va_W} {own : String} (ho : y.cls = own) (hy : plainName y.cls = true) (hA : (lg_sl As).length ≤ n)
    (body : ∀ (p : Program) (e : Env) (s : State) (m : MethodId) (args : Array Value) (below : List Frame) (meth : Method) (c : Code) (A : Nat → Prop) (Q : State → Prop), Ctx p s m args c cc n own D cI A → va_D A W0 →
      (∀ (H : Heap) (locs : List Loc) (pc : Nat) (ls : Array Slot), va_P D vwCl W1 H → va_S A s.heap H locs → decode cc pc = .ok (.return_, 1) → W p l e (RM fr lo) s m args below meth c H locs 0 0 Q (F0 m pc ls [])) →
      ∀ (H : Heap) (locs : List Loc) (ls : Array Slot), va_P D vwCl W0 H → va_S A s.heap H locs → lv_has ls n (lv_args 0 As) → W p l e (RM fr lo) s m args below meth c H locs 0 0 Q (F0 m 0 ls [])) : MV l D cI y cc n fr lo As W0 W1 := by
  intro sz
  refine Met.ofW (cc := cc) (maxL := n) (ret := none) hy rfl ?_
  intro p e s m args below meth c s₁ B hml hv
  obtain ⟨rfl, hsz, hP, hK, hD0, hN, hZ⟩ := hv
  have hts := atoms_spec (ws := wsA y cc n none) B.pre
  have hown : s.vm.findClass y.cls = some m.cls := findClass_of_methodNamed B.named
  subst hsz
  have hD := hD0.self (sz := s.heap.size)
  have hl := lv_entry As (n := n) hA
  rw [lg_entry_eq]
  exact body p e s m As.toArray below meth c (va_A W0 s.heap.size) _ ⟨⟨B.exec, B.bytes, hml, ho ▸ hown, fun w h => hts w (List.mem_cons_of_mem _ h)⟩, hK, hN, hZ, fun q h => Or.inr h⟩ hD (fun H locs pc ls hP1 hS hd => by
    exact W.vret B.exec B.bytes B.returns (fun t ht hW => ⟨⟨(), rfl, trivial, by show va_P D vwCl W1 t.heap; rw [ht]; exact hP1⟩, hS.F ht⟩) hS.2.2 hd B.notSynchronized) _ _ _ hP va_S.rf hl
theorem MR.mk {l : Launch} {D : va_G} {cI : ClassId} {y : MethodName} {cc : ByteArray} {n : Nat} {ty : String} {fr lo : Nat} {As : List Value} {W0 : va_W} {r : Nat} {W1 : va_W} {own : String} (ho : y.cls = own) (hy : plainName y.cls = true) (hA : (lg_sl As).length ≤ n)
    (body : ∀ (p : Program) (e : Env) (s : State) (m : MethodId) (args : Array Value) (below : List Frame) (meth : Method) (c : Code) (A : Nat → Prop) (Q : State → Prop), Ctx p s m args c cc n own D cI A → va_D A W0 →
      (∀ (x : Nat) (H : Heap) (locs : List Loc) (pc : Nat) (ls : Array Slot), x = r → va_P D vwCl W1 H → va_S A s.heap H locs → decode cc pc = .ok (.areturn, 1) → W p l e (RM fr lo) s m args below meth c H locs 0 0 Q (F0 m pc ls [.ref x])) →
      ∀ (H : Heap) (locs : List Loc) (ls : Array Slot), va_P D vwCl W0 H → va_S A s.heap H locs → lv_has ls n (lv_args 0 As) → W p l e (RM fr lo) s m args below meth c H locs 0 0 Q (F0 m 0 ls [])) : MR l D cI y cc n (some (.object ty)) fr lo As W0 r W1 := by
  intro sz
  refine Met.ofW (cc := cc) (maxL := n) (ret := some (.object ty)) hy rfl ?_
  intro p e s m args below meth c s₁ B hml hv
  obtain ⟨rfl, hsz, hP, hK, hD0, hN, hZ⟩ := hv
  have hts := atoms_spec (ws := wsA y cc n (some (.object ty))) B.pre
  have hown : s.vm.findClass y.cls = some m.cls := findClass_of_methodNamed B.named
  subst hsz
  have hD := hD0.self (sz := s.heap.size)
  have hl := lv_entry As (n := n) hA
  rw [lg_entry_eq]
  exact body p e s m As.toArray below meth c (va_A W0 s.heap.size) _ ⟨⟨B.exec, B.bytes, hml, ho ▸ hown, fun w h => hts w (List.mem_cons_of_mem _ h)⟩, hK, hN, hZ, fun q h => Or.inr h⟩ hD (fun x H locs pc ls hx hP1 hS hd => by
    subst hx
    exact W.aret B.exec B.bytes B.returns (Or.inl ⟨_, rfl⟩) (Or.inr ⟨_, rfl⟩) (fun t ht hW => ⟨⟨(), _, rfl, trivial, rfl, by rw [ht]; exact hP1⟩, hS.F ht⟩) hS.2.2 hd B.notSynchronized) _ _ _ hP va_S.rf hl
/-! the frame rule with places: what came back is put where it was taken -/
def putW : va_W → List Nat → va_W → va_W
  | ws, i :: is, q :: qs => putW (ws.set i q) is qs
  | ws, _, _ => ws
theorem putW_get : ∀ (is : List Nat) (qs ws : va_W) (k : Nat) (x : Nat × va_E), is.length = qs.length → (putW ws is qs)[k]? = some x → (∃ j : Nat, is[j]? = some k ∧ qs[j]? = some x) ∨ (ws[k]? = some x ∧ k ∉ is)
  | [], qs, ws, k, x, _, h => Or.inr ⟨by simpa [putW] using h, by simp⟩
  | i :: is, [], ws, k, x, hl, h => by simp at hl
  | i :: is, q :: qs, ws, k, x, hl, h => by
    rcases putW_get is qs (ws.set i q) k x (by simpa using hl) h with ⟨j, h1, h2⟩ | ⟨h1, h2⟩
    · exact Or.inl ⟨j + 1, by simpa using h1, by simpa using h2⟩
    · by_cases hki : k = i
      · subst hki
        have hlt : k < (ws.set k q).length := (List.getElem?_eq_some_iff.mp h1).1
        rw [List.getElem?_set_self (by simpa using hlt)] at h1
        cases h1
        exact Or.inl ⟨0, rfl, rfl⟩
      · rw [List.getElem?_set_ne (Ne.symm hki)] at h1
        exact Or.inr ⟨h1, by simp [hki, h2]⟩
theorem putW_fst : ∀ (is : List Nat) (qs ws : va_W), is.map (fun i => (ws.map Prod.fst)[i]?) = qs.map (fun q => some q.1) → (putW ws is qs).map Prod.fst = ws.map Prod.fst
  | [], qs, ws, _ => by simp [putW]
  | i :: is, [], ws, h => by simp at h
  | i :: is, q :: qs, ws, h => by
    have h1 : (ws.map Prod.fst)[i]? = some q.1 := (List.cons.inj h).1
    have h2 := (List.cons.inj h).2
    have e : (ws.set i q).map Prod.fst = ws.map Prod.fst := by
      apply List.ext_getElem?
      intro k
      rw [List.getElem?_map, List.getElem?_map]
      by_cases hk : i = k
      · subst hk
        rw [List.getElem?_map] at h1
        cases hw : ws[i]? with
        | none => rw [hw] at h1; cases h1
        | some z =>
          rw [hw] at h1
          have hlt := (List.getElem?_eq_some_iff.mp hw).1
          rw [List.getElem?_set_self hlt]
          exact h1.symm
      · rw [List.getElem?_set_ne hk]
    have := putW_fst is qs (ws.set i q) (by rw [e]; exact h2)
    rw [putW, this, e]
theorem va_D_fst {A : Nat → Prop} {ws ws' : va_W} (e : ws'.map Prod.fst = ws.map Prod.fst) (hD : va_D A ws) : va_D A ws' := by
  have key : ∀ (k : Nat) (q : Nat × va_E), ws'[k]? = some q → ∃ q0, ws[k]? = some q0 ∧ q0.1 = q.1 := by
    intro k q hk
    have h1 : (ws'.map Prod.fst)[k]? = some q.1 := by rw [List.getElem?_map, hk]; rfl
    rw [e, List.getElem?_map] at h1
    cases hw : ws[k]? with
    | none => rw [hw] at h1; cases h1
    | some z => rw [hw] at h1; exact ⟨z, rfl, Option.some.inj h1⟩
  refine ⟨fun i j x y hi hj hxy => ?_, fun k q hk => ?_⟩
  · obtain ⟨x0, a1, a2⟩ := key i x hi
    obtain ⟨y0, b1, b2⟩ := key j y hj
    exact hD.1 i j x0 y0 a1 b1 (a2.trans (hxy.trans b2.symm))
  · obtain ⟨q0, a1, a2⟩ := key k q hk
    rw [← a2]; exact hD.2 k q0 a1
theorem cut_at {is : List Nat} {ws w : va_W} (hs : is.map (fun i => ws[i]?) = w.map some) (k : Nat) (q : Nat × va_E) (hq : w[k]? = some q) : ∃ i, is[k]? = some i ∧ ws[i]? = some q := by
  have h1 : (is.map (fun i => ws[i]?))[k]? = some (some q) := by rw [hs, List.getElem?_map, hq]; rfl
  rw [List.getElem?_map] at h1
  cases hi : is[k]? with
  | none => rw [hi] at h1; cases h1
  | some i => rw [hi] at h1; exact ⟨i, rfl, Option.some.inj h1⟩
theorem cut_P {D : va_G} {ws w : va_W} {H : Heap} (hP : va_P D vwCl ws H) {is : List Nat} (hs : is.map (fun i => ws[i]?) = w.map some) : va_P D vwCl w H := fun k q hk => by
  obtain ⟨i, -, h2⟩ := cut_at hs k q hk
  exact hP i q h2
theorem put_back {A : Nat → Prop} {D : va_G} {ws wc w1 : va_W} {H H1 : Heap} (hP : va_P D vwCl ws H) (hD : va_D A ws) (is : List Nat) (hC : is.map (fun i => ws[i]?) = wc.map some) (ha : w1.map Prod.fst = wc.map Prod.fst)
    (hk : ∀ q : Nat, q < H.size → ¬ va_A wc H.size q → H1[q]? = H[q]?) (hP1 : va_P D vwCl w1 H1) : va_P D vwCl (putW ws is w1) H1 ∧ va_D A (putW ws is w1) := by
  have hlen : is.length = w1.length := by
    have h1 := congrArg List.length hC
    have h2 := congrArg List.length ha
    simp only [List.length_map] at h1 h2
    omega
  refine ⟨fun k q hq => ?_, va_D_fst (putW_fst is w1 ws ?_) hD⟩
  · rcases putW_get is w1 ws k q hlen hq with ⟨j, h1, h2⟩ | ⟨h1, h2⟩
    · exact hP1 j q h2
    · have hl := (hP k q h1).lt
      refine (hP k q h1).kept (hk q.1 hl fun h => ?_)
      rcases h with ⟨k2, e, h⟩ | h
      · obtain ⟨j, h3, h4⟩ := cut_at hC k2 (q.1, e) h
        have hij := hD.1 k j q (q.1, e) h1 h4 rfl
        subst hij
        exact h2 (List.mem_of_getElem? h3)
      · omega
  · have e : is.map (fun i => (ws.map Prod.fst)[i]?) = (is.map (fun i => ws[i]?)).map (Option.map Prod.fst) := by
      rw [List.map_map]
      apply List.map_congr_left
      intro i _
      simp [List.getElem?_map]
    rw [e, hC, List.map_map]
    have e2 : wc.map (Option.map Prod.fst ∘ some) = (wc.map Prod.fst).map some := by
      rw [List.map_map]; rfl
    rw [e2, ← ha, List.map_map]; rfl
theorem gd_all : GoodIn wsG wsG := wsG_good
theorem gd {y : MethodName} {yc : ByteArray} {yn : Nat} {yret : Option FieldType} (h : Cond.code y yc yn yret ∈ wsG) : GoodIn wsG (wsA y yc yn yret) := fun w hw => (List.mem_cons.mp hw).elim (fun e => e ▸ gd_all _ h) (gd_all w)
/-- what is known of a callee -/
abbrev CK (y : MethodName) (yc : ByteArray) (yn : Nat) (yret : Option FieldType) (n : Nat) : Prop := Cond.code y yc yn yret ∈ wsG ∧ Cond.initialized y.cls ∈ wsG ∧ (y.cls ≠ "java/lang/invoke/MethodHandle" ∧ y.cls ≠ "java/lang/invoke/VarHandle" ∧ (parseMethodDescriptor y.desc).map (fun d => d.parameters.length) = some n)
section KB
variable {p : Program} {l : Launch} {e : Env} {R : Room} {s : State} {m : MethodId} {args : Array Value} {below : List Frame} {meth : Method} {c : Code} {H : Heap} {locs : List Loc} {cells slots : Nat} {Q : State → Prop}
variable {cc : ByteArray} {nL : Nat} {own : String} {D : va_G} {cI : ClassId} {A : Nat → Prop} {ws : va_W} {pc : Nat} {ls : Array Slot} {rest st : List Value} {lv : List (Nat × Value)}
variable {y : MethodName} {yc : ByteArray} {yn : Nat} {yret : Option FieldType} {fr lo : Nat} {As : List Value} {Wc : va_W} {Qc : Array Value → State → Outcome → State → Prop} {free : Addr → Prop} {index : Nat}
theorem pre_of (C : Ctx p s m args c cc nL own D cI A) (hP : va_P D vwCl ws H) (hD : va_D A ws) (hS : va_S A s.heap H locs) (is : List Nat) (hn : va_nd is = true) (hC : is.map (fun i => ws[i]?) = Wc.map some) (U : State) (hU : U.heap = H) (hW : s.WarmedH U.vm) : PRE D cI Wc H.size U := by
  have hF := va_free hD hS C.2.2.2.2 is hC
  refine ⟨by rw [hU], by rw [hU]; exact cut_P hP hC, va_K.moved hW.alike C.2.1, (hD.sub is hn hC).weaken (fun _ _ _ _ => trivial), NL.warm hW C.2.2.1, ?_⟩
  rw [hU]
  exact ((C.2.2.2.1.kept hS.1 hS.2.1).narrow hF).moved hW.alike
theorem rn_S (C : Ctx p s m args c cc nL own D cI A) (hM : Met l y (wsA y yc yn yret) (RM fr lo) (va_Pc As (PRE D cI Wc H.size)) Qc 0 0 free) (K : CK y yc yn yret As.length) (hst : Cond.static y ∈ wsG) (hlk : Cond.methodLink own index y ∈ wsG) (hR : fr + 1 ≤ R.frames ∧ 8 + (yn + 11) + lo ≤ R.locals) (hcs : cells ≤ R.cells ∧ slots ≤ R.slots)
    (hP : va_P D vwCl ws H) (hD : va_D A ws) (hS : va_S A s.heap H locs) (is : List Nat) (hn : va_nd is = true) (hC : is.map (fun i => ws[i]?) = Wc.map some) (hl : lv_has ls nL lv) (hstk : st = As.reverse ++ rest) (hW : (rest.map fun v => v.category).sum ≤ 8) (hdg : decode cc pc = .ok (.invokestatic index, 3)) :
    va_Run p l e R s m args below meth c H locs cells slots 0 0 (F0 m pc ls st) rest (Qc As.toArray) free :=
  va_runS C.1 hM ⟨callB_of As.length C.1.2.2.2.2 (gd K.1) rfl rfl rfl (C.1.2.2.2.2 _ K.2.1) (C.1.2.2.2.2 _ hlk) K.2.2 hR, C.1.2.2.2.2 _ hst⟩ ⟨PRE.blind, fun U hU hW => ⟨rfl, pre_of C hP hD hS is hn hC U hU hW⟩⟩ rfl rfl hl.1 hstk (lv_room hW) hdg hcs
theorem rn_N {host : String} (C : Ctx p s m args c cc nL own D cI A) (hM : Met l y (wsA y yc yn yret) (RM fr lo) (va_Pc As (PRE D cI Wc H.size)) Qc 0 0 free) (K : CK y yc yn yret As.length) (hst : Cond.static y ∈ wsG) (hlk : va_Nw (.methodLinkNest own index y host) s) (hR : fr + 1 ≤ R.frames ∧ 8 + (yn + 11) + lo ≤ R.locals) (hcs : cells ≤ R.cells ∧ slots ≤ R.slots)
    (hP : va_P D vwCl ws H) (hD : va_D A ws) (hS : va_S A s.heap H locs) (is : List Nat) (hn : va_nd is = true) (hC : is.map (fun i => ws[i]?) = Wc.map some) (hl : lv_has ls nL lv) (hstk : st = As.reverse ++ rest) (hW : (rest.map fun v => v.category).sum ≤ 8) (hdg : decode cc pc = .ok (.invokestatic index, 3)) :
    va_Run p l e R s m args below meth c H locs cells slots 0 0 (F0 m pc ls st) rest (Qc As.toArray) free :=
  va_runSN C.1 hM ⟨va_cnB As.length C.1.2.2.2.2 (gd K.1) rfl rfl rfl hlk (C.1.2.2.2.2 _ K.2.1) K.2.2 hR, C.1.2.2.2.2 _ hst, trivial⟩ ⟨PRE.blind, fun U hU hW => ⟨rfl, pre_of C hP hD hS is hn hC U hU hW⟩⟩ rfl rfl hl.1 hstk (lv_room hW) hdg hcs
theorem rn_V {b q0 ci : Nat} {fs : List Value} {CC : String} {T : u_T} {N : Nat} (C : Ctx p s m args c cc nL own D cI A) (hM : Met l y (wsA y yc yn yret) (RM fr lo) (va_Pc (.ref b :: As) (PRE D cI Wc H.size)) Qc 0 0 free) (K : CK y yc yn yret As.length) (hin : Cond.instanceMethod y ∈ wsG) (hse : Cond.selects CC y y ∈ wsG) (hlk : Cond.methodLink own index y ∈ wsG) (hR : fr + 1 ≤ R.frames ∧ 8 + (yn + 11) + lo ≤ R.locals) (hcs : cells ≤ R.cells ∧ slots ≤ R.slots)
    (hc : vwCl[ci]? = some (CC, T, N)) (he : ws[q0]? = some (b, .inr (ci, fs))) (hP : va_P D vwCl ws H) (hD : va_D A ws) (hS : va_S A s.heap H locs) (is : List Nat) (hn : va_nd is = true) (hC : is.map (fun i => ws[i]?) = Wc.map some) (hl : lv_has ls nL lv) (hstk : st = As.reverse ++ .ref b :: rest) (hW : (rest.map fun v => v.category).sum ≤ 8) (hdg : decode cc pc = .ok (.invokevirtual index, 3)) :
    va_Run p l e R s m args below meth c H locs cells slots 0 0 (F0 m pc ls st) rest (Qc (Value.ref b :: As).toArray) free :=
  va_runV C.1 hM ⟨callB_of As.length C.1.2.2.2.2 (gd K.1) rfl rfl rfl (C.1.2.2.2.2 _ K.2.1) (C.1.2.2.2.2 _ hlk) K.2.2 hR, C.1.2.2.2.2 _ hin, C.1.2.2.2.2 _ hse⟩ ⟨PRE.blind, va_recv C.2.1 hP hc he, fun U hU hW => ⟨rfl, pre_of C hP hD hS is hn hC U hU hW⟩⟩ rfl rfl hl.1 hstk (lv_room hW) hdg hcs
variable {r : Int32} {W1 ws' : va_W} {a : Array Value}
theorem go_i (C : Ctx p s m args c cc nL own D cI A) (hr : va_Run p l e R s m args below meth c H locs cells slots 0 0 (F0 m pc ls st) rest (va_Qi (fun r' (_ : Unit) => r' = r) (fun _ t => va_P D vwCl W1 t.heap) (va_A Wc H.size) a) (va_A Wc H.size))
    (hP : va_P D vwCl ws H) (hD : va_D A ws) (hS : va_S A s.heap H locs) (is : List Nat) (hC : is.map (fun i => ws[i]?) = Wc.map some) (ha : W1.map Prod.fst = Wc.map Prod.fst) (hw : putW ws is W1 = ws')
    (kk : ∀ (H1 : Heap) (locs1 : List Loc), va_P D vwCl ws' H1 → va_D A ws' → va_S A s.heap H1 locs1 → W p l e R s m args below meth c H1 locs1 cells slots Q (F0 m (pc + 3) ls (.int r :: rest))) : W p l e R s m args below meth c H locs cells slots Q (F0 m pc ls st) := by
  have hF := va_free hD hS C.2.2.2.2 is hC
  refine va_calli hr hS (fun q _ h => hF q h) hF (fun r' u t H1 locs1 ht hvm hw1 hB hz hk hS1 => ?_)
  subst hw1
  rw [ht] at hB
  obtain ⟨hP1, hD1⟩ := put_back hP hD is hC ha hk hB
  rw [hw] at hP1 hD1
  exact kk H1 locs1 hP1 hD1 hS1
theorem go_v (C : Ctx p s m args c cc nL own D cI A) (hr : va_Run p l e R s m args below meth c H locs cells slots 0 0 (F0 m pc ls st) rest (va_Qv (fun _ : Unit => True) (fun _ t => va_P D vwCl W1 t.heap) (va_A Wc H.size) a) (va_A Wc H.size))
    (hP : va_P D vwCl ws H) (hD : va_D A ws) (hS : va_S A s.heap H locs) (is : List Nat) (hC : is.map (fun i => ws[i]?) = Wc.map some) (ha : W1.map Prod.fst = Wc.map Prod.fst) (hw : putW ws is W1 = ws')
    (kk : ∀ (H1 : Heap) (locs1 : List Loc), va_P D vwCl ws' H1 → va_D A ws' → va_S A s.heap H1 locs1 → W p l e R s m args below meth c H1 locs1 cells slots Q (F0 m (pc + 3) ls rest)) : W p l e R s m args below meth c H locs cells slots Q (F0 m pc ls st) := by
  have hF := va_free hD hS C.2.2.2.2 is hC
  refine va_callv hr hS (fun q _ h => hF q h) hF (fun u t H1 locs1 ht hvm hw1 hB hz hk hS1 => ?_)
  rw [ht] at hB
  obtain ⟨hP1, hD1⟩ := put_back hP hD is hC ha hk hB
  rw [hw] at hP1 hD1
  exact kk H1 locs1 hP1 hD1 hS1
theorem go_r {rr : Nat} (C : Ctx p s m args c cc nL own D cI A) (hr : va_Run p l e R s m args below meth c H locs cells slots 0 0 (F0 m pc ls st) rest (va_Qr (fun _ : Unit => True) (fun _ a t => a = rr ∧ va_P D vwCl W1 t.heap) (va_A Wc H.size) a) (va_A Wc H.size))
    (hP : va_P D vwCl ws H) (hD : va_D A ws) (hS : va_S A s.heap H locs) (is : List Nat) (hC : is.map (fun i => ws[i]?) = Wc.map some) (ha : W1.map Prod.fst = Wc.map Prod.fst) (hw : putW ws is W1 = ws')
    (kk : ∀ (H1 : Heap) (locs1 : List Loc), va_P D vwCl ws' H1 → va_D A ws' → va_S A s.heap H1 locs1 → W p l e R s m args below meth c H1 locs1 cells slots Q (F0 m (pc + 3) ls (.ref rr :: rest))) : W p l e R s m args below meth c H locs cells slots Q (F0 m pc ls st) := by
  have hF := va_free hD hS C.2.2.2.2 is hC
  refine va_callr hr hS (fun q _ h => hF q h) hF (fun u ra t H1 locs1 ht hvm hw1 hB hz hk hS1 => ?_)
  obtain ⟨rfl, hB⟩ := hB
  rw [ht] at hB
  obtain ⟨hP1, hD1⟩ := put_back hP hD is hC ha hk hB
  rw [hw] at hP1 hD1
  exact kk H1 locs1 hP1 hD1 hS1
/-! fields, rows, Math -/
theorem kget {CC : String} {T : u_T} {N ci b : Nat} {fs : List Value} {v : Value} (C : Ctx p s m args c cc nL own D cI A) (hP : va_P D vwCl ws H) (hin : ∀ w ∈ u_ws CC T N, w ∈ wsG) (hc : vwCl[ci]? = some (CC, T, N)) (k : Nat) (hk : k < N) (hlk : Cond.fieldLink own index (T k).1 (T k).2.1 (T k).2.2.1 ∈ wsG) (q0 : Nat) (he : ws[q0]? = some (b, .inr (ci, fs))) (hv : fs[k]? = some v) (hdg : decode cc pc = .ok (.getfield index, 3))
    (kk : W p l e R s m args below meth c H locs cells slots Q (F0 m (pc + 3) ls (v :: rest))) : W p l e R s m args below meth c H locs cells slots Q (F0 m pc ls (.ref b :: rest)) :=
  va_get C.1.1 C.1.2.1 C.1.2.2.2.2 hin C.1.2.2.2.1 C.2.1 hP q0 he hc k hk (C.1.2.2.2.2 _ hlk) (fun _ h => h) hv hdg kk
theorem kput {CC : String} {T : u_T} {N ci b : Nat} {fs : List Value} {v : Value} {ty : FieldType} {ty0 : Nat → FieldType} (C : Ctx p s m args c cc nL own D cI A) (hP : va_P D vwCl ws H) (hD : va_D A ws) (hS : va_S A s.heap H locs) (hin : ∀ w ∈ u_ws CC T N, w ∈ wsG) (hty : ∀ k, k < N → parseFieldDescriptor (T k).2.2.1 = some (ty0 k)) (hnm : ∀ a, a < N → ∀ b, b < N → a ≠ b → (T a).2.1 ≠ (T b).2.1) (hc : vwCl[ci]? = some (CC, T, N)) (k : Nat) (hk : k < N) (hlk : Cond.fieldLink own index (T k).1 (T k).2.1 (T k).2.2.1 ∈ wsG) (hfin : (T k).2.2.2 = false) (hd : parseFieldDescriptor (T k).2.2.1 = some ty) (hn : narrow ty v = v) (hfit : fits ty v = true) (q0 : Nat) (he : ws[q0]? = some (b, .inr (ci, fs))) (hl : k < fs.length) (hw : ws.set q0 (b, .inr (ci, fs.set k v)) = ws') (hdg : decode cc pc = .ok (.putfield index, 3))
    (kk : ∀ (H1 : Heap) (locs1 : List Loc), va_P D vwCl ws' H1 → va_D A ws' → va_S A s.heap H1 locs1 → W p l e R s m args below meth c H1 locs1 cells slots Q (F0 m (pc + 3) ls rest)) : W p l e R s m args below meth c H locs cells slots Q (F0 m pc ls (v :: .ref b :: rest)) := by
  subst hw
  exact va_put C.1.1 C.1.2.1 C.1.2.2.2.2 hin ty0 hty hnm C.1.2.2.2.1 C.2.1 hP hD hS q0 he hc k hk (C.1.2.2.2.2 _ hlk) (fun _ h => h) hfin hd hn hfit hl hdg kk
theorem kald {b n k : Nat} {f : Nat → Int32} {i : Int32} (C : Ctx p s m args c cc nL own D cI A) (hP : va_P D vwCl ws H) (q0 : Nat) (ha : ws[q0]? = some (b, .inl (cI, n, .inl f))) (hin : vp_in i n) (hk : Int32.toNatClampNeg i = k) (hdg : decode cc pc = .ok (.iaload, 1))
    (kk : W p l e R s m args below meth c H locs cells slots Q (F0 m (pc + 1) ls (.int (f k) :: rest))) : W p l e R s m args below meth c H locs cells slots Q (F0 m pc ls (.int i :: .ref b :: rest)) := by
  subst hk
  exact va_iald C.1.1 C.1.2.1 C.2.1 hP q0 0 ha rfl hin hdg kk
theorem kast {b n k : Nat} {f : Nat → Int32} {i x : Int32} (C : Ctx p s m args c cc nL own D cI A) (hP : va_P D vwCl ws H) (hD : va_D A ws) (hS : va_S A s.heap H locs) (q0 : Nat) (ha : ws[q0]? = some (b, .inl (cI, n, .inl f))) (hin : vp_in i n) (hk : Int32.toNatClampNeg i = k) (hw : ws.set q0 (b, .inl (cI, n, .inl (upd f k x))) = ws') (hdg : decode cc pc = .ok (.iastore, 1))
    (kk : ∀ (H1 : Heap) (locs1 : List Loc), va_P D vwCl ws' H1 → va_D A ws' → va_S A s.heap H1 locs1 → W p l e R s m args below meth c H1 locs1 cells slots Q (F0 m (pc + 1) ls rest)) : W p l e R s m args below meth c H locs cells slots Q (F0 m pc ls (.int x :: .int i :: .ref b :: rest)) := by
  subst hk
  subst hw
  exact va_iast C.1.1 C.1.2.1 C.2.1 hP hD hS q0 0 ha rfl hin hdg kk
theorem kmax {x z : Int32} (C : Ctx p s m args c cc nL own D cI A) (hl : lv_has ls nL lv) (hlk : Cond.methodLink own index Lib.Math.max.name ∈ wsG) (hst : Cond.static Lib.Math.max.name ∈ wsG) (hin : Cond.initialized "java/lang/Math" ∈ wsG) (hco : Cond.code Lib.Math.max.name Lib.Math.max.code 2 (some .int) ∈ wsG) (hR : 1 ≤ R.frames ∧ (rest.map fun v => v.category).sum + 13 ≤ R.locals) (hcs : cells ≤ R.cells ∧ slots ≤ R.slots) (hdg : decode cc pc = .ok (.invokestatic index, 3))
    (kk : W p l e R s m args below meth c H locs cells slots Q (F0 m (pc + 3) ls (.int (if x < z then z else x) :: rest))) : W p l e R s m args below meth c H locs cells slots Q (F0 m pc ls (.int z :: .int x :: rest)) :=
  va_mmax C.1.1 C.1.2.1 (C.1.2.2.1.trans hl.1.symm) C.1.2.2.2.1 (C.1.2.2.2.2 _ hlk) (C.1.2.2.2.2 _ hst) (C.1.2.2.2.2 _ hin) (C.1.2.2.2.2 _ hco) hR.1 hR.2 hcs.1 hcs.2 hdg kk
theorem kmin {x z : Int32} (C : Ctx p s m args c cc nL own D cI A) (hl : lv_has ls nL lv) (hlk : Cond.methodLink own index Lib.Math.min.name ∈ wsG) (hst : Cond.static Lib.Math.min.name ∈ wsG) (hin : Cond.initialized "java/lang/Math" ∈ wsG) (hco : Cond.code Lib.Math.min.name Lib.Math.min.code 2 (some .int) ∈ wsG) (hR : 1 ≤ R.frames ∧ (rest.map fun v => v.category).sum + 13 ≤ R.locals) (hcs : cells ≤ R.cells ∧ slots ≤ R.slots) (hdg : decode cc pc = .ok (.invokestatic index, 3))
    (kk : W p l e R s m args below meth c H locs cells slots Q (F0 m (pc + 3) ls (.int (if z < x then z else x) :: rest))) : W p l e R s m args below meth c H locs cells slots Q (F0 m pc ls (.int z :: .int x :: rest)) :=
  va_mmin C.1.1 C.1.2.1 (C.1.2.2.1.trans hl.1.symm) C.1.2.2.2.1 (C.1.2.2.2.2 _ hlk) (C.1.2.2.2.2 _ hst) (C.1.2.2.2.2 _ hin) (C.1.2.2.2.2 _ hco) hR.1 hR.2 hcs.1 hcs.2 hdg kk
theorem kldc2 {v : Int64} (C : Ctx p s m args c cc nL own D cI A) (hlk : Cond.constantLong own index v ∈ wsG) (hdg : decode cc pc = .ok (.ldc2_w index, 3))
    (kk : W p l e R s m args below meth c H locs cells slots Q (F0 m (pc + 3) ls (.long v :: rest))) : W p l e R s m args below meth c H locs cells slots Q (F0 m pc ls rest) :=
  lv_ldc2 C.1.1 C.1.2.1 C.1.2.2.2.1 (C.1.2.2.2.2 _ hlk) hdg kk
end KB
/-! bundles -/
def g8 (a b c d e f g h : Int32) : Nat → Int32 | 0 => a | 1 => b | 2 => c | 3 => d | 4 => e | 5 => f | 6 => g | _ => h
def l7 (c d e f g : Int32) : Nat → Int32 | 2 => c | 3 => d | 4 => e | 5 => f | _ => g
def x10 (a b c d e f : Int32) : Nat → Int32 | 4 => a | 5 => b | 6 => c | 7 => d | 8 => e | _ => f
abbrev gc (a : Nat) (G : Nat → Int32) : Nat × va_E := (a, .inr (0, [.int (G 0), .int (G 1), .int (G 2), .int (G 3), .int (G 4), .int (G 5), .int (G 6), .int (G 7)]))
abbrev hc (a a1 a2 a3 : Nat) : Nat × va_E := (a, .inr (1, [.ref a1, .ref a2, .ref a3]))
abbrev lc (a ag ai : Nat) (L : Nat → Int32) : Nat × va_E := (a, .inr (2, [.ref ag, .ref ai, .int (L 2), .int (L 3), .int (L 4), .int (L 5), .int (L 6)]))
abbrev rc (a av : Nat) : Nat × va_E := (a, .inr (3, [.ref av]))
abbrev xc (a ar al at_ ah : Nat) (X : Nat → Int32) : Nat × va_E := (a, .inr (4, [.ref ar, .ref al, .ref at_, .ref ah, .int (X 4), .int (X 5), .int (X 6), .int (X 7), .int (X 8), .int (X 9)]))
abbrev yc (a : Nat → Nat) (Y : Nat → Int32) : Nat × va_E := (a 0, .inr (5, [.int (Y 0), .int (Y 1), .ref (a 2), .int (Y 3), .int (Y 4), .int (Y 5), .ref (a 6), .ref (a 7), .ref (a 8), .ref (a 9), .ref (a 10), .ref (a 11), .ref (a 12), .ref (a 13), .ref (a 14), .ref (a 15), .ref (a 16), .ref (a 17), .ref (a 18), .int (Y 19), .ref (a 20)]))
abbrev ac (cI : ClassId) (a n : Nat) (f : Nat → Int32) : Nat × va_E := (a, .inl (cI, n, .inl f))
theorem ts_out {x : Int32} {hi : Int} (h : ∀ k : Int, 0 ≤ k → k ≤ hi → ¬ x = Int32.ofInt k) : x.toInt < 0 ∨ hi < x.toInt := by
  by_cases h0 : x.toInt < 0
  · exact Or.inl h0
  · by_cases h1 : hi < x.toInt
    · exact Or.inr h1
    · exact absurd (Int32.ofInt_toInt x).symm (h x.toInt (by omega) (by omega))
def y21 (a b c d e f : Int32) : Nat → Int32 | 0 => a | 1 => b | 3 => c | 4 => d | 5 => e | _ => f
