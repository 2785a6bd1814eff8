/-! super.m(..), where the superclass has m from its own superclass -/
section VSX
variable {p : Program} {l : Launch} {e : Env} {R : Room} {s : State} {m : MethodId} {args : Array Value} {below : List Frame} {meth : Method} {c : Code}
theorem va_callSX {T : State} {locs : List Loc} {cells slots : Nat} (X : Stand p l e R s m args below meth c T locs cells slots) (hexec : p.tables.exec = Jvm.exec) {own owner : String} {index : Nat} {x y : MethodName} {bytes : ByteArray} {maxL : Nat} {ret : Option FieldType}
    (hown : s.vm.findClass own = some m.cls) (hlink : (Cond.methodLink own index x).before args s = true) (hsame : (Cond.sameMethod x.cls owner x.name x.desc).before args s = true) (hsup : (Cond.superclass own x.cls).before args s = true) (hsup2 : (Cond.superclass x.cls owner).before args s = true) (hxy : y = ⟨owner, x.name, x.desc⟩)
    (hinst : (Cond.instanceMethod y).before args s = true) (hcode : (Cond.code y bytes maxL ret).before args s = true) (hno : x.name ≠ "<init>")
    {W : Nat} {Pre : Pt → Array Value → Prop} {Post : Pt → Array Value → Option Value → Pt → Prop} (hK : Back l R p e below s args y 3 W Pre Post)
    {b : Addr} {cellB : Cell} {kB : Class} (hcell : T.heap[b]? = some cellB) (hobj : cellB.vm.isStatics = false) (hkB : s.vm.classes[cellB.cls]? = some kB)
    {g : JFrame} (hg : g.method = m) (hsize : g.locals.size = c.maxLocals) {argsL rest : List Value} (hlen : ∀ sig, parseMethodDescriptor y.desc = some sig → argsL.length = sig.parameters.length)
    (hstack : g.stack = argsL.reverse ++ .ref b :: rest) (hW : 2 * g.monitorRoom + (rest.map fun v => v.category).sum ≤ W) (hdg : decode c.code g.pc = .ok (.invokespecial index, 3))
    (hpre : ∀ vm₁, s.WarmedH vm₁ → Pre ⟨T.setVm vm₁, locs, cells, slots⟩ (Value.ref b :: argsL).toArray) :
    ∃ (v : Option Value) (vm₁ : Vm) (B : Pt), s.WarmedH vm₁ ∧ Stand p l e R s m args below meth c B.U B.locs B.cells B.slots ∧ Post ⟨T.setVm vm₁, locs, cells, slots⟩ (Value.ref b :: argsL).toArray v B ∧
      ∀ target, Steps p.tables e below (B.U.setTop { g with pc := g.pc + 3, stack := v.toList ++ rest }) target → Steps p.tables e below (T.setTop g) target := by
  subst hxy
  obtain ⟨mk, methM, hnamed, hmethM, hstM, habM⟩ := Cond.instanceMethod_spec hinst
  obtain ⟨methM', cM, hmethM', -, -, -, -, -, -, hsigM⟩ := Cond.code_spec hnamed hcode
  cases hmethM.symm.trans hmethM'
  obtain ⟨ps, dk, kp, hps, hdk, hkp, hsuper, -, -, hnid⟩ := Cond.superclass_spec hown hsup
  obtain ⟨po, kx, ko, hpo, hkx, hko, hsuper2, -, -, -⟩ := Cond.superclass_spec hps hsup2
  have hpm : po = mk.cls := Option.some.inj (hpo.symm.trans (findClass_of_methodNamed hnamed))
  have hsz : 0 < s.vm.classes.size := Nat.lt_of_le_of_lt (Nat.zero_le _) (Array.getElem?_eq_some_iff.mp hkx).1
  have hsub : s.vm.isSubclass ps mk.cls = true := by
    rw [← hpm]
    obtain ⟨n, hn⟩ : ∃ n, s.vm.classes.size = n + 1 := ⟨s.vm.classes.size - 1, by omega⟩
    simp [Vm.isSubclass, Vm.isSubclassAux, hkx, hsuper2, hn]
  obtain ⟨vm₁, X₁, hstep₁⟩ := X.invokespecialUp hexec hown hlink hsame hnamed hmethM hstM habM hno hdk hnid hps hsuper hsub (a := b) (cell := cellB) hcell
    (fun z h => by rw [h] at hobj; cases hobj) hkB (g := g) hg (argsL := argsL) (rest := rest) (hlen _ hsigM) hstack hdg
  obtain ⟨v, B, X', hpost, hsteps⟩ := hK m meth c ⟨T.setVm vm₁, locs, cells, slots⟩ { g with stack := rest } (.invokespecial index) mk (Value.ref b :: argsL).toArray X₁ hg hsize hdg hW (X₁.named hnamed) (hpre vm₁ X₁.warmed)
  exact ⟨v, vm₁, B, X₁.warmed, X', hpost, fun target h => hstep₁ _ (by rw [doInvoke_state]; exact hsteps.trans h)⟩
variable {H : Heap} {locs : List Loc} {cells slots : Nat} {Q : State → Prop}
variable {cc : ByteArray} {nL : Nat} {own : String} {pc : Nat} {ls : Array Slot} {rest : List Value} {D : va_G} {cy : Nat → ClassId} {sh : Nat → gShp} {ad : Nat → Nat} {L : List Nat} {A : Nat → Prop} {mem : gMem}
variable {E : State → Prop} {x y : MethodName} {owner : String} {bytes : ByteArray} {maxL fr lo index : Nat} {ret : Option FieldType} {As : List Value} {mem' : gMem} {ov : Option Value} {n : Nat}
theorem c_SX {o ci : Nat} {fs : List Nat} {q : vw_C} (hC : gC p s m args meth c cc nL own D cy) (hX : gX A s E) (hB : eBl E) (hF : gF ad L A) (hH : gH D cy sh ad L A s.heap mem H locs) (hM : gMet l y bytes maxL ret fr lo E D cy sh ad L (.ref (ad o) :: As) mem mem' ov)
    (hxy : y = ⟨owner, x.name, x.desc⟩) (k1 : Cond.methodLink own index x ∈ WS) (k2 : Cond.sameMethod x.cls owner x.name x.desc ∈ WS) (k3 : Cond.superclass own x.cls ∈ WS) (k3b : Cond.superclass x.cls owner ∈ WS) (k4 : Cond.initialized y.cls ∈ WS) (k5 : Cond.code y bytes maxL ret ∈ WS) (k6 : Cond.instanceMethod y ∈ WS) (hno : x.name ≠ "<init>") (hn2 : arity y.desc n) (ho : o ∈ L) (hs : sh o = (0, ci, fs)) (hc : vwCl[ci]? = some q) (hn : As.length = n) (hls : ls.size = nL)
    (hR : fr + 1 ≤ R.frames ∧ 8 + (maxL + 11) + lo ≤ R.locals ∧ cells ≤ R.cells ∧ slots ≤ R.slots) (hW : (rest.map fun v => v.category).sum ≤ 8) (hdg : decode cc pc = .ok (.invokespecial index, 3))
    (kk : ∀ (H1 : Heap) (locs1 : List Loc), gH D cy sh ad L A s.heap mem' H1 locs1 → W p l e R s m args below meth c H1 locs1 cells slots Q (F0 m (pc + 3) ls (ov.toList ++ rest))) : W p l e R s m args below meth c H locs cells slots Q (F0 m pc ls (As.reverse ++ .ref (ad o) :: rest)) := by
  have hts := hC.ts
  refine c_go (a := (Value.ref (ad o) :: As).toArray) hF hH ?_ kk
  have hM2 : Met l y (Cond.code y bytes maxL ret :: WS) (gRm fr lo) (va_Pc (.ref (ad o) :: As) (gPc E D cy sh ad L mem)) (gQ ov (gA ad L) (gP1 D cy sh ad L mem')) 0 0 (gA ad L) := hM
  have hini := hts _ k4
  have hK : Back l R p e below s args y 3 8 (PreOf R 0 0 (va_Pc (.ref (ad o) :: As) (gPc E D cy sh ad L mem))) (PostOf (gQ ov (gA ad L) (gP1 D cy sh ad L mem')) 0 0 (gA ad L)) := back_of (bytes := bytes) (maxL := maxL) (ret := ret) hM2 (gPc_blind hB) rfl rfl hR.1 hR.2.1 (WS_warm hts k5) List.mem_cons_self (fun a' U hW => word_at hW (Or.inl (by first | rfl | simp [Cond.onTables, Cond.keeps, Cond.steady])) hini)
  obtain ⟨cellB, hcB, hoB, hclB⟩ := c_recv hC hH ho hs hc
  obtain ⟨hfc, kB, hkB, -⟩ := (hC.K.1 ci q hc).2
  have e0 := Option.some.inj (hfc.symm.trans hclB)
  rw [e0] at hkB
  intro T hT X
  obtain ⟨v, vm₁, ⟨U', l2, c2, s2⟩, hW₁, X', ⟨g', mk, t, L1, e1, e2, hq, h1, hL, h2, h3⟩, st⟩ := va_callSX X hC.x (bytes := bytes) (maxL := maxL) (ret := ret) hC.ow (hts _ k1) (hts _ k2) (hts _ k3) (hts _ k3b) hxy (hts _ k6) (hts _ k5) hno hK (by rw [hT]; exact hcB) hoB hkB rfl (hls.trans hC.ml.symm) (argsL := As) (rest := rest) (fun sig h => hn.trans (arity_s hn2 sig h)) rfl (lv_room hW) (by rw [hC.b]; exact hdg)
    (fun vm₁ hW₁ => ⟨hR.2.2.1, hR.2.2.2, c_pre hC hH hX (T.setVm vm₁) hT hW₁⟩)
  dsimp only [Pt.U, Pt.locs, Pt.cells, Pt.slots] at X' e1 e2 h1 h2 h3 st
  subst h1; subst h2; subst h3
  exact ⟨v, (T.setVm vm₁).calling g' mk (Value.ref (ad o) :: As).toArray, t, U', L1, hT, X', hL, e1, e2, hq, st⟩
end VSX
