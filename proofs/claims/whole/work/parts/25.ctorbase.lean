/-! constructors: contracts of methods that make cells -/
abbrev RC (fr lo mc ms : Nat) : Room := { frames := fr, cells := mc, slots := ms, locals := lo }
def MC {S : Type} (l : Launch) (D : va_G) (cI : ClassId) (y : MethodName) (cc : ByteArray) (n : Nat) (fr lo mc ms : Nat) (As : List Value) (W0 : va_W) (W1 : S → va_W) : Prop :=
  ∀ sz : Nat, Met l y (wsA y cc n none) (RC fr lo mc ms) (va_Pc As (PRE D cI W0 sz)) (va_Qv (fun _ : S => True) (fun u t => va_P D vwCl (W1 u) t.heap ∧ va_D (va_A W0 sz) (W1 u)) (va_A W0 sz)) mc ms (va_A W0 sz)
theorem MC.mk {S : Type} {l : Launch} {D : va_G} {cI : ClassId} {y : MethodName} {cc : ByteArray} {n : Nat} {fr lo mc ms : Nat} {As : List Value} {W0 : va_W} {W1 : S → va_W} {own : String} (ho : y.cls = own) (hy : plainName y.cls = true) (hA : (lg_sl As).length ≤ n)
    (body : ∀ (p : Program) (e : Env) (s : State) (m : MethodId) (args : Array Value) (below : List Frame) (meth : Method) (c : Code) (A : Nat → Prop) (Q : State → Prop), Ctx p s m args c cc n own D cI A → meth.name = y.name → va_D A W0 →
      (∀ (u : S) (H : Heap) (locs : List Loc) (pc : Nat) (ls : Array Slot) (cells slots : Nat), cells ≤ mc → slots ≤ ms → va_P D vwCl (W1 u) H → va_D A (W1 u) → va_S A s.heap H locs → decode cc pc = .ok (.return_, 1) → W p l e (RC fr lo mc ms) s m args below meth c H locs cells slots Q (F0 m pc ls [])) →
      ∀ (H : Heap) (locs : List Loc) (ls : Array Slot), va_P D vwCl W0 H → va_S A s.heap H locs → lv_has ls n (lv_args 0 As) → W p l e (RC fr lo mc ms) s m args below meth c H locs 0 0 Q (F0 m 0 ls [])) : MC l D cI y cc n fr lo mc ms As W0 W1 := by
  intro sz
  refine Met.ofW (cc := cc) (maxL := n) (ret := none) hy rfl ?_
  intro p e s m args below meth c s₁ B hml hv
  obtain ⟨rfl, hsz, hP, hK, hD0, hN, hZ⟩ := hv
  have hts := atoms_spec (ws := wsA y cc n none) B.pre
  have hown : s.vm.findClass y.cls = some m.cls := findClass_of_methodNamed B.named
  subst hsz
  have hD := hD0.self (sz := s.heap.size)
  have hl := lv_entry As (n := n) hA
  rw [lg_entry_eq]
  exact body p e s m As.toArray below meth c (va_A W0 s.heap.size) _ ⟨⟨B.exec, B.bytes, hml, ho ▸ hown, fun w h => hts w (List.mem_cons_of_mem _ h)⟩, hK, hN, hZ, fun q h => Or.inr h⟩ (name_of_methodNamed B.named B.method).1 hD (fun u H locs pc ls cells slots h1 h2 hP1 hD1 hS hd => by
    refine W.widen (k := mc) (n := ms) h1 h2 ?_
    exact W.vret B.exec B.bytes B.returns (fun t ht hW => ⟨⟨u, rfl, trivial, by show va_P D vwCl (W1 u) t.heap ∧ _; rw [ht]; exact ⟨hP1, hD1⟩⟩, hS.F ht⟩) hS.2.2 hd B.notSynchronized) _ _ _ hP va_S.rf hl
section KC
variable {p : Program} {l : Launch} {e : Env} {R : Room} {s : State} {m : MethodId} {args : Array Value} {below : List Frame} {meth : Method} {c : Code} {H : Heap} {locs : List Loc} {cells slots : Nat} {Q : State → Prop}
variable {cc : ByteArray} {nL : Nat} {own : String} {D : va_G} {cI : ClassId} {A : Nat → Prop} {ws : va_W} {pc : Nat} {ls : Array Slot} {rest st : List Value} {lv : List (Nat × Value)} {index : Nat}
theorem kobj {b : Nat} (C : Ctx p s m args c cc nL own D cI A) (hl : lv_has ls nL lv) (hlk : Cond.methodLink own index objectInit ∈ wsG) (hin : Cond.instanceMethod objectInit ∈ wsG) (hco : Cond.code objectInit ⟨#[0xb1]⟩ 1 none ∈ wsG) (hdg : decode cc pc = .ok (.invokespecial index, 3)) (hR : 1 ≤ R.frames ∧ (rest.map fun v => v.category).sum + 12 ≤ R.locals)
    (kk : W p l e R s m args below meth c H locs cells slots Q (F0 m (pc + 3) ls rest)) : W p l e R s m args below meth c H locs cells slots Q (F0 m pc ls (.ref b :: rest)) :=
  W.objInit C.1.1 C.1.2.1 C.1.2.2.2.1 (C.1.2.2.2.2 _ hlk) (C.1.2.2.2.2 _ hin) (C.1.2.2.2.2 _ hco) rfl (by rw [C.1.2.2.1]; exact hl.1) rfl hdg hR.1 (by show 2 * 0 + _ + 12 ≤ _; have := hR.2; omega) kk
theorem knewa {n : Int32} {N' : Nat} (C : Ctx p s m args c cc nL own D cI A) (hP : va_P D vwCl ws H) (hD : va_D A ws) (hS : va_S A s.heap H locs) (hac : Cond.arrayClass .int ∈ wsG) (hn : ¬ n < 0) (hN : n.toNatClampNeg = N') (hby : N' * componentBytes .int ≤ 536870912) (hcells : cells + 1 ≤ R.cells) (hslots : slots + N' ≤ R.slots) (hdg : decode cc pc = .ok (.newarray .int, 2))
    (kk : ∀ (q : Nat) (H1 : Heap), va_P D vwCl (ws ++ [ac cI q N' (fun _ => 0)]) H1 → va_D A (ws ++ [ac cI q N' (fun _ => 0)]) → va_S A s.heap H1 locs → W p l e R s m args below meth c H1 locs (cells + 1) (slots + N') Q (F0 m (pc + 2) ls (.ref q :: rest))) : W p l e R s m args below meth c H locs cells slots Q (F0 m pc ls (.int n :: rest)) := by
  refine va_newa (atype := .int) (a0 := (N', .inl (fun _ => 0))) C.1.1 C.1.2.1 (C.1.2.2.2.2 _ hac) rfl C.2.1 hP hD hS C.2.2.2.2 (fun _ => rfl) hn hN hby hcells hslots hdg (fun q cA H1 hK1 hP1 hD1 hS1 => ?_)
  have h1 : va_RA s cI .int := (C.2.1.2 0 (cI, .int) rfl).2
  have h2 : va_RA s cA .int := (hK1.2 1 (cA, .int) rfl).2
  have e : cA = cI := Option.some.inj ((show s.vm.findClass _ = some cA from h2).symm.trans (show s.vm.findClass _ = some cI from h1))
  subst e
  exact kk q H1 hP1 hD1 hS1
theorem knew {CC : String} {T : u_T} {N ci : Nat} {ty : Nat → FieldType} {fs : List Value} (C : Ctx p s m args c cc nL own D cI A) (hP : va_P D vwCl ws H) (hD : va_D A ws) (hS : va_S A s.heap H locs) (hin : ∀ w ∈ u_ws CC T N, w ∈ wsG) (hty : ∀ k, k < N → parseFieldDescriptor (T k).2.2.1 = some (ty k)) (hcl : Cond.classLink own index CC ∈ wsG) (hinst : Cond.instantiable CC N ∈ wsG) (hini : Cond.initialized CC ∈ wsG) (hc : vwCl[ci]? = some (CC, T, N)) (hfs : ∀ j, j < N → defaultValue (ty j) = vp_V fs j) (hcells : cells + 1 ≤ R.cells) (hslots : slots + N ≤ R.slots) (hdg : decode cc pc = .ok (.new index, 3))
    (kk : ∀ (q : Nat) (H1 : Heap), va_P D vwCl (ws ++ [(q, .inr (ci, fs))]) H1 → va_D A (ws ++ [(q, .inr (ci, fs))]) → va_S A s.heap H1 locs → W p l e R s m args below meth c H1 locs (cells + 1) (slots + N) Q (F0 m (pc + 3) ls (.ref q :: rest))) : W p l e R s m args below meth c H locs cells slots Q (F0 m pc ls rest) :=
  va_new C.1.1 C.1.2.1 C.1.2.2.2.2 hin ty hty C.1.2.2.2.1 (C.1.2.2.2.2 _ hcl) (C.1.2.2.2.2 _ hinst) (C.1.2.2.2.2 _ hini) C.2.1 hP hD hS C.2.2.2.2 hc hfs hcells hslots hdg kk
theorem kputF {CC : String} {T : u_T} {N ci b : Nat} {fs : List Value} {v : Value} {ty : FieldType} {ty0 : Nat → FieldType} {ws' : va_W} (C : Ctx p s m args c cc nL own D cI A) (hnm2 : meth.name = "<init>") (hP : va_P D vwCl ws H) (hD : va_D A ws) (hS : va_S A s.heap H locs) (hin : ∀ w ∈ u_ws CC T N, w ∈ wsG) (hty : ∀ k, k < N → parseFieldDescriptor (T k).2.2.1 = some (ty0 k)) (hnm : ∀ a, a < N → ∀ b, b < N → a ≠ b → (T a).2.1 ≠ (T b).2.1) (hc : vwCl[ci]? = some (CC, T, N)) (k : Nat) (hk : k < N) (hlk : Cond.fieldLink own index (T k).1 (T k).2.1 (T k).2.2.1 ∈ wsG) (hfin : (T k).2.2.2 = true) (hdecl : (T k).1 = own) (hd : parseFieldDescriptor (T k).2.2.1 = some ty) (hn : narrow ty v = v) (hfit : fits ty v = true) (q0 : Nat) (he : ws[q0]? = some (b, .inr (ci, fs))) (hl : k < fs.length) (hw : ws.set q0 (b, .inr (ci, fs.set k v)) = ws') (hdg : decode cc pc = .ok (.putfield index, 3))
    (kk : ∀ (H1 : Heap) (locs1 : List Loc), va_P D vwCl ws' H1 → va_D A ws' → va_S A s.heap H1 locs1 → W p l e R s m args below meth c H1 locs1 cells slots Q (F0 m (pc + 3) ls rest)) : W p l e R s m args below meth c H locs cells slots Q (F0 m pc ls (v :: .ref b :: rest)) := by
  subst hw
  exact va_putF C.1.1 C.1.2.1 C.1.2.2.2.2 hin ty0 hty hnm C.1.2.2.2.1 C.2.1 hP hD hS q0 he hc k hk (C.1.2.2.2.2 _ hlk) (fun _ h => h) hfin hnm2 hdecl hd hn hfit hl hdg kk
/-- the constructor's call, by its link or a nest mate's -/
theorem rn_I {S : Type} {y : MethodName} {yc : ByteArray} {yn fr lo mc ms b : Nat} {As : List Value} {Wc : va_W} {W1 : S → va_W} (C : Ctx p s m args c cc nL own D cI A) (hM : MC l D cI y yc yn fr lo mc ms (.ref b :: As) Wc W1) (K : CK y yc yn none As.length) (hy1 : y.name = "<init>") (hin : Cond.instanceMethod y ∈ wsG) (hlk : Cond.methodLink own index y ∈ wsG) (hR : fr + 1 ≤ R.frames ∧ 8 + (yn + 11) + lo ≤ R.locals) (hcs : cells + mc ≤ R.cells ∧ slots + ms ≤ R.slots)
    (hP : va_P D vwCl ws H) (hD : va_D A ws) (hS : va_S A s.heap H locs) (is : List Nat) (hn : va_nd is = true) (hC : is.map (fun i => ws[i]?) = Wc.map some) (hl : lv_has ls nL lv) (hstk : st = As.reverse ++ .ref b :: rest) (hW : (rest.map fun v => v.category).sum ≤ 8) (hdg : decode cc pc = .ok (.invokespecial index, 3)) :
    va_Run p l e R s m args below meth c H locs cells slots mc ms (F0 m pc ls st) rest (va_Qv (fun _ : S => True) (fun u t => va_P D vwCl (W1 u) t.heap ∧ va_D (va_A Wc H.size) (W1 u)) (va_A Wc H.size) (Value.ref b :: As).toArray) (va_A Wc H.size) :=
  va_runI C.1 (hM H.size) ⟨callB_of As.length C.1.2.2.2.2 (gd K.1) rfl rfl rfl (C.1.2.2.2.2 _ K.2.1) (C.1.2.2.2.2 _ hlk) K.2.2 hR, hy1, C.1.2.2.2.2 _ hin⟩ ⟨PRE.blind, fun U hU hW => ⟨rfl, pre_of C hP hD hS is hn hC U hU hW⟩⟩ rfl rfl hl.1 hstk (lv_room hW) hdg hcs
theorem rn_IN {S : Type} {host : String} {y : MethodName} {yc : ByteArray} {yn fr lo mc ms b : Nat} {As : List Value} {Wc : va_W} {W1 : S → va_W} (C : Ctx p s m args c cc nL own D cI A) (hM : MC l D cI y yc yn fr lo mc ms (.ref b :: As) Wc W1) (K : CK y yc yn none As.length) (hy1 : y.name = "<init>") (hin : Cond.instanceMethod y ∈ wsG) (hlk : va_Nw (.methodLinkNest own index y host) s) (hR : fr + 1 ≤ R.frames ∧ 8 + (yn + 11) + lo ≤ R.locals) (hcs : cells + mc ≤ R.cells ∧ slots + ms ≤ R.slots)
    (hP : va_P D vwCl ws H) (hD : va_D A ws) (hS : va_S A s.heap H locs) (is : List Nat) (hn : va_nd is = true) (hC : is.map (fun i => ws[i]?) = Wc.map some) (hl : lv_has ls nL lv) (hstk : st = As.reverse ++ .ref b :: rest) (hW : (rest.map fun v => v.category).sum ≤ 8) (hdg : decode cc pc = .ok (.invokespecial index, 3)) :
    va_Run p l e R s m args below meth c H locs cells slots mc ms (F0 m pc ls st) rest (va_Qv (fun _ : S => True) (fun u t => va_P D vwCl (W1 u) t.heap ∧ va_D (va_A Wc H.size) (W1 u)) (va_A Wc H.size) (Value.ref b :: As).toArray) (va_A Wc H.size) :=
  va_runIN C.1 (hM H.size) ⟨va_cnB As.length C.1.2.2.2.2 (gd K.1) rfl rfl rfl hlk (C.1.2.2.2.2 _ K.2.1) K.2.2 hR, hy1, C.1.2.2.2.2 _ hin⟩ ⟨PRE.blind, fun U hU hW => ⟨rfl, pre_of C hP hD hS is hn hC U hU hW⟩⟩ rfl rfl hl.1 hstk (lv_room hW) hdg hcs
theorem go_c {S : Type} {mc ms : Nat} {Wc wr : va_W} {W1 : S → va_W} {a : Array Value} (C : Ctx p s m args c cc nL own D cI A) (hr : va_Run p l e R s m args below meth c H locs cells slots mc ms (F0 m pc ls st) rest (va_Qv (fun _ : S => True) (fun u t => va_P D vwCl (W1 u) t.heap ∧ va_D (va_A Wc H.size) (W1 u)) (va_A Wc H.size) a) (va_A Wc H.size))
    (hP : va_P D vwCl ws H) (hD : va_D A ws) (hS : va_S A s.heap H locs) (isC isR : List Nat) (hC : isC.map (fun i => ws[i]?) = Wc.map some) (hR' : isR.map (fun i => ws[i]?) = wr.map some) (hn : va_nd isR = true) (hdis : ∀ i ∈ isR, i ∉ isC)
    (kk : ∀ (u : S) (H1 : Heap) (locs1 : List Loc), va_P D vwCl (wr ++ W1 u) H1 → va_D A (wr ++ W1 u) → va_S A s.heap H1 locs1 → W p l e R s m args below meth c H1 locs1 (cells + mc) (slots + ms) Q (F0 m (pc + 3) ls rest)) : W p l e R s m args below meth c H locs cells slots Q (F0 m pc ls st) := by
  have hF := va_free hD hS C.2.2.2.2 isC hC
  refine va_callv hr hS (fun q _ h => hF q h) hF (fun u t H1 locs1 ht hvm hw1 hB hz hk hS1 => ?_)
  rw [ht] at hB
  obtain ⟨hP1, hD1⟩ := va_join hP hD isC isR hC hR' hn hdis hk hF hB.1 hB.2
  exact kk u H1 locs1 hP1 hD1 hS1
/-- System.arraycopy(AT_FIRST, 0, row, 0, 11) -/
theorem kcopy {b b0 : Nat} {g f : Nat → Int32} {ws' : va_W} (C : Ctx p s m args c cc nL own D cI A) (hl : lv_has ls nL lv) (hP : va_P D vwCl ws H) (hD : va_D A ws) (hS : va_S A s.heap H locs) (hX : va_T .int b0 11 (fun j => .int (f j)) A s s.heap) (hlk : Cond.methodLink own index arraycopyName ∈ wsG) (hna : Cond.native arraycopyName ∈ wsG) (hst : Cond.static arraycopyName ∈ wsG) (hin : Cond.initialized "java/lang/System" ∈ wsG) (q1 : Nat) (ha1 : ws[q1]? = some (b, .inl (cI, 11, .inl g))) (hfr : 1 ≤ R.frames) (hlo : (rest.map fun v => v.category).sum + (nativeFrameWords "java/lang/System" "arraycopy" 5 + 11) ≤ R.locals) (hw : ws.set q1 (b, .inl (cI, 11, .inl (va_cpy f g 0 0 11))) = ws') (hdg : decode cc pc = .ok (.invokestatic index, 3))
    (kk : ∀ (H1 : Heap) (locs1 : List Loc), va_P D vwCl ws' H1 → va_D A ws' → va_S A s.heap H1 locs1 → W p l e R s m args below meth c H1 locs1 cells slots Q (F0 m (pc + 3) ls rest)) : W p l e R s m args below meth c H locs cells slots Q (F0 m pc ls (.int 11 :: .int 0 :: .ref b :: .int 0 :: .ref b0 :: rest)) := by
  subst hw
  intro T hT X
  have hX1 : va_T .int b0 11 (fun j => .int (f j)) A s H := hX.kept hS.2.1
  obtain ⟨scr, hc0, ⟨hsobj, k0, hk0, cm0, hkk0⟩, hun, hsz, -, hval, -⟩ := hX1
  have hc1 : H[b]? = some (vp_cell cI (11, .inl g)) := hP q1 _ ha1
  obtain ⟨-, k1, hk1, cm1, hkk1⟩ := (C.2.1.2 0 (cI, .int) rfl).1 11 (fun j => .int (g j))
  have hgd : ∀ i, i < 11 → scr.slots.getD (0 + i) .null = .int (f i) := fun i hi => by
    rw [Array.getD_eq_getD_getElem?, Nat.zero_add, hval i hi]; rfl
  obtain ⟨vm', X', step⟩ := X.arraycopy C.1.1 C.1.2.2.2.1 (C.1.2.2.2.2 _ hlk) (C.1.2.2.2.2 _ hna) (C.1.2.2.2.2 _ hst) (C.1.2.2.2.2 _ hin) (src := b0) (dst := b) (cs := scr) (cd := vp_cell cI (11, .inl g)) (srcPos := 0) (destPos := 0) (n := 11) (by rw [hT]; exact hc0) (by rw [hT]; exact hc1)
    hsobj (fun _ h => by cases h) hun (fun h => by cases h) hk0 hk1 hkk0 hkk1 (by show ((refKind FieldType.int != refKind FieldType.int) || (!refKind FieldType.int && FieldType.int != FieldType.int)) = false; decide) (by decide) (by decide) (by decide)
    (by show ¬ (0 : Int) + 11 > _; omega) (by show ¬ _ > ((arrV cI 11 (fun j => .int (g j))).slots.size : Int); rw [arrV_size]; decide)
    (fun vm₁ _ i hi => by
      have hi : i < 11 := hi
      have e : scr.slots.getD (Int32.toNatClampNeg 0 + i) .null = .int (f i) := hgd i hi
      rw [e]
      exact ⟨rfl, trivial⟩)
    (g := F0 m pc ls (.int 11 :: .int 0 :: .ref b :: .int 0 :: .ref b0 :: rest)) rfl (hl.1.trans C.1.2.2.1.symm) (rest := rest) rfl (by rw [C.1.2.1]; exact hdg) hfr (by show 2 * 0 + _ + _ ≤ _; omega)
  have e1 : copied scr (vp_cell cI (11, .inl g)) 0 0 11 = vp_cell cI (11, .inl (va_cpy f g 0 0 11)) := by
    have e2 : scr.stretch 0 11 = (arrV cI 11 (fun j => .int (f j))).stretch 0 11 := by
      unfold Cell.stretch
      apply List.map_congr_left
      intro i hi
      have hi' := List.mem_range.mp hi
      rw [hgd i hi', Array.getD_eq_getD_getElem?, arrV_read _ _ (by omega), Nat.zero_add]
      rfl
    show (vp_cell cI (11, .inl g)).storeRun 0 (scr.stretch 0 11) = _
    rw [e2]
    exact va_copied (fun z => .int z) cI cI f g (by decide)
  rw [e1] at X' step
  have hlb : b < H.size := (Array.getElem?_eq_some_iff.mp hc1).1
  have hheap : ((T.setVm vm').setCell b (vp_cell cI (11, .inl (va_cpy f g 0 0 11)))).heap = H.setIfInBounds b (vp_cell cI (11, .inl (va_cpy f g 0 0 11))) := by rw [← hT]; rfl
  have oq : ∀ q : Nat, q ≠ b → (H.setIfInBounds b (vp_cell cI (11, .inl (va_cpy f g 0 0 11))))[q]? = H[q]? := fun q hq => by simp [Array.getElem?_setIfInBounds, Ne.symm hq]
  obtain ⟨t, a1, b1⟩ := kk _ _ (hP.set hD ha1 (show (H.setIfInBounds b _)[b]? = some _ by simp [Array.getElem?_setIfInBounds, hlb]) oq) (hD.set ha1) ⟨by simp; exact hS.1, fun q g1 g2 => by
      rw [oq q (fun e => g2 (by rw [e]; exact hD.2 q1 _ ha1))]
      exact hS.2.1 q g1 g2, fun q hq => by
      rcases List.mem_append.mp hq with h | h
      · exact hS.2.2 q h
      · obtain ⟨z, -, hz⟩ := List.mem_map.mp h
        rw [← hz]
        exact hD.2 q1 _ ha1⟩ _ hheap X'
  exact ⟨t, step t a1, b1⟩
end KC
