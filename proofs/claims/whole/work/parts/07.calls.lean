/-! calls -/
abbrev noMH (C : String) : Prop := C ≠ "java/lang/invoke/MethodHandle" ∧ C ≠ "java/lang/invoke/VarHandle"
abbrev arity (d : String) (n : Nat) : Prop := (parseMethodDescriptor d).map (fun d => d.parameters.length) = some n
theorem arity_s {d : String} {n : Nat} (h : arity d n) : ∀ sig, parseMethodDescriptor d = some sig → n = sig.parameters.length := by
  intro sig e
  unfold arity at h
  rw [e] at h
  exact (Option.some.inj h).symm
theorem WS_warm {args : Array Value} {s : State} (ht : ∀ w ∈ WS, w.before args s = true) {y : MethodName} {cc : ByteArray} {nL : Nat} {ret : Option FieldType} (hc : Cond.code y cc nL ret ∈ WS) : ∀ w ∈ (Cond.code y cc nL ret :: WS), ∀ (a' : Array Value) (U : State), s.WarmedH U.vm → w.before a' U = true := by
  have h : GoodIn WS (Cond.code y cc nL ret :: WS) := by
    intro w hw
    rcases List.mem_cons.mp hw with e | e
    · subst e; exact ⟨hc, good_of_word (WS_good _ hc)⟩
    · exact ⟨e, good_of_word (WS_good _ e)⟩
  exact pay_in ht h
theorem gPc_blind {av : List Value} {E : State → Prop} {D : va_G} {cy : Nat → ClassId} {sh : Nat → gShp} {ad : Nat → Nat} {L : List Nat} {mem : gMem} (hE : ∀ (a : Array Value) (U : State) (g : JFrame) (mk : MethodId), E U → E (U.calling g mk a)) : FrameBlind (va_Pc av (gPc E D cy sh ad L mem)) := by
  intro a U g mk q
  obtain ⟨q0, q1, q2, q3⟩ := q
  exact ⟨q0, q1, va_K.moved (u := U) (U := U.calling g mk a) (Vm.Alike.refl U.vm) q2, hE _ _ _ _ q3⟩
section GC
variable {p : Program} {l : Launch} {e : Env} {R : Room} {s : State} {m : MethodId} {args : Array Value} {below : List Frame} {meth : Method} {c : Code} {H : Heap} {locs : List Loc} {cells slots : Nat} {Q : State → Prop}
variable {cc : ByteArray} {nL : Nat} {own : String} {pc : Nat} {ls : Array Slot} {rest : List Value} {D : va_G} {cy : Nat → ClassId} {sh : Nat → gShp} {ad : Nat → Nat} {L : List Nat} {A : Nat → Prop} {mem : gMem}
/-- behind a call -/
theorem c_go {ov : Option Value} {mem' : gMem} {a : Array Value} {st0 : List Value} (hF : gF ad L A) (hH : gH D cy sh ad L A s.heap mem H locs)
    (hr : va_Run p l e R s m args below meth c H locs cells slots 0 0 (F0 m pc ls st0) rest (gQ ov (gA ad L) (gP1 D cy sh ad L mem') a) (gA ad L))
    (kk : ∀ (H1 : Heap) (locs1 : List Loc), gH D cy sh ad L A s.heap mem' H1 locs1 → W p l e R s m args below meth c H1 locs1 cells slots Q (F0 m (pc + 3) ls (ov.toList ++ rest))) : W p l e R s m args below meth c H locs cells slots Q (F0 m pc ls st0) := by
  intro T hT X
  obtain ⟨v, st₀, t, T', L1, h0, X', hL, e1, e2, ⟨hv, hp, hz, hk⟩, st⟩ := hr T hT X
  cases hv
  rw [h0] at hz hk
  have hAA : ∀ q, gA ad L q → A q := fun q ⟨o, ho, hq⟩ => by rw [hq]; exact hF.2 o ho
  obtain ⟨t2, a1, b1⟩ := kk T'.heap (locs ++ L1) ⟨by rw [e1]; exact hp, Nat.le_trans hH.S.1 (by rw [e1]; exact hz), fun q h1 h2 => by
      rw [e1, hk q (Nat.lt_of_lt_of_le h1 hH.S.1) (fun z => h2 (hAA q z))]; exact hH.S.2.1 q h1 h2, fun q hq => by
      rcases List.mem_append.mp hq with h | h
      · exact hH.S.2.2 q h
      · exact hAA _ (hL q h)⟩ T' rfl X'
  exact ⟨t2, st t2 a1, b1⟩
variable {E : State → Prop} {y : MethodName} {bytes : ByteArray} {maxL fr lo index : Nat} {ret : Option FieldType} {av As : List Value} {mem' : gMem} {ov : Option Value} {n : Nat}
abbrev eBl (E : State → Prop) : Prop := ∀ (a : Array Value) (U : State) (g : JFrame) (mk : MethodId), E U → E (U.calling g mk a)
theorem c_pre (hC : gC p s m args meth c cc nL own D cy) (hH : gH D cy sh ad L A s.heap mem H locs) (hX : gX A s E) : ∀ U : State, U.heap = H → s.WarmedH U.vm → va_Pc av (gPc E D cy sh ad L mem) av.toArray U :=
  fun U hU hW => ⟨rfl, by rw [hU]; exact hH.P, va_K.moved hW.alike hC.K, hX H locs hH.S U hU hW⟩
theorem c_recv (hC : gC p s m args meth c cc nL own D cy) (hH : gH D cy sh ad L A s.heap mem H locs) {o ci : Nat} {fs : List Nat} {q : vw_C} (ho : o ∈ L) (hs : sh o = (0, ci, fs)) (hc : vwCl[ci]? = some q) : ∃ cell : Cell, H[ad o]? = some cell ∧ cell.vm.isStatics = false ∧ s.vm.findClass q.1 = some cell.cls := by
  obtain ⟨z, hz, hw⟩ := gW_at (cy := cy) (sh := sh) (ad := ad) (m := mem) ho
  have hw2 : (gW cy sh ad L mem)[z]? = some (ad o, .inr (ci, gFs ad mem o fs)) := by rw [hw, hs]; rfl
  exact va_recv hC.K hH.P hc hw2
/-- a method of the class itself: words are the link, the method, the choice, its code -/
theorem c_V {o ci : Nat} {fs : List Nat} {q : vw_C} (hC : gC p s m args meth c cc nL own D cy) (hX : gX A s E) (hB : eBl E) (hF : gF ad L A) (hH : gH D cy sh ad L A s.heap mem H locs) (hM : gMet l y bytes maxL ret fr lo E D cy sh ad L (.ref (ad o) :: As) mem mem' ov)
    (k1 : Cond.methodLink own index y ∈ WS) (k2 : Cond.instanceMethod y ∈ WS) (k3 : Cond.selects q.1 y y ∈ WS) (k4 : Cond.initialized y.cls ∈ WS) (k5 : Cond.code y bytes maxL ret ∈ WS) (hn1 : noMH y.cls) (hn2 : arity y.desc n) (ho : o ∈ L) (hs : sh o = (0, ci, fs)) (hc : vwCl[ci]? = some q) (hn : As.length = n) (hls : ls.size = nL)
    (hR : fr + 1 ≤ R.frames ∧ 8 + (maxL + 11) + lo ≤ R.locals ∧ cells ≤ R.cells ∧ slots ≤ R.slots) (hW : (rest.map fun v => v.category).sum ≤ 8) (hdg : decode cc pc = .ok (.invokevirtual index, 3))
    (kk : ∀ (H1 : Heap) (locs1 : List Loc), gH D cy sh ad L A s.heap mem' H1 locs1 → W p l e R s m args below meth c H1 locs1 cells slots Q (F0 m (pc + 3) ls (ov.toList ++ rest))) : W p l e R s m args below meth c H locs cells slots Q (F0 m pc ls (As.reverse ++ .ref (ad o) :: rest)) := by
  have hts := hC.ts
  exact c_go hF hH (va_runV (C := q.1) (As := As) (rest := rest) (n := n) ⟨hC.x, hC.b, hC.ml, hC.ow, hts⟩ hM ⟨⟨rfl, rfl, hR.1, hR.2.1, WS_warm hts k5, List.mem_cons_self, hts _ k5, hts _ k4, hn1, arity_s hn2, hts _ k1⟩, hts _ k2, hts _ k3⟩ ⟨gPc_blind hB, c_recv hC hH ho hs hc, c_pre hC hH hX⟩ rfl hn hls rfl (lv_room hW) hdg ⟨hR.2.2.1, hR.2.2.2⟩) kk
/-- a static method of the class itself, or of another one -/
theorem c_S (hC : gC p s m args meth c cc nL own D cy) (hX : gX A s E) (hB : eBl E) (hF : gF ad L A) (hH : gH D cy sh ad L A s.heap mem H locs) (hM : gMet l y bytes maxL ret fr lo E D cy sh ad L As mem mem' ov)
    (k1 : Cond.methodLink own index y ∈ WS) (k2 : Cond.static y ∈ WS) (k4 : Cond.initialized y.cls ∈ WS) (k5 : Cond.code y bytes maxL ret ∈ WS) (hn1 : noMH y.cls) (hn2 : arity y.desc n) (hn : As.length = n) (hls : ls.size = nL)
    (hR : fr + 1 ≤ R.frames ∧ 8 + (maxL + 11) + lo ≤ R.locals ∧ cells ≤ R.cells ∧ slots ≤ R.slots) (hW : (rest.map fun v => v.category).sum ≤ 8) (hdg : decode cc pc = .ok (.invokestatic index, 3))
    (kk : ∀ (H1 : Heap) (locs1 : List Loc), gH D cy sh ad L A s.heap mem' H1 locs1 → W p l e R s m args below meth c H1 locs1 cells slots Q (F0 m (pc + 3) ls (ov.toList ++ rest))) : W p l e R s m args below meth c H locs cells slots Q (F0 m pc ls (As.reverse ++ rest)) := by
  have hts := hC.ts
  exact c_go hF hH (va_runS (As := As) (rest := rest) (n := n) ⟨hC.x, hC.b, hC.ml, hC.ow, hts⟩ hM ⟨⟨rfl, rfl, hR.1, hR.2.1, WS_warm hts k5, List.mem_cons_self, hts _ k5, hts _ k4, hn1, arity_s hn2, hts _ k1⟩, hts _ k2⟩ ⟨gPc_blind hB, c_pre hC hH hX⟩ rfl hn hls rfl (lv_room hW) hdg ⟨hR.2.2.1, hR.2.2.2⟩) kk
/-- a static private method of a nest mate -/
theorem c_SN {host : String} (hC : gC p s m args meth c cc nL own D cy) (hX : gX A s E) (hB : eBl E) (hF : gF ad L A) (hH : gH D cy sh ad L A s.heap mem H locs) (hM : gMet l y bytes maxL ret fr lo E D cy sh ad L As mem mem' ov)
    (k1 : va_Nw (.methodLinkNest own index y host) s) (k2 : Cond.static y ∈ WS) (k4 : Cond.initialized y.cls ∈ WS) (k5 : Cond.code y bytes maxL ret ∈ WS) (hn1 : noMH y.cls) (hn2 : arity y.desc n) (hn : As.length = n) (hls : ls.size = nL)
    (hR : fr + 1 ≤ R.frames ∧ 8 + (maxL + 11) + lo ≤ R.locals ∧ cells ≤ R.cells ∧ slots ≤ R.slots) (hW : (rest.map fun v => v.category).sum ≤ 8) (hdg : decode cc pc = .ok (.invokestatic index, 3))
    (kk : ∀ (H1 : Heap) (locs1 : List Loc), gH D cy sh ad L A s.heap mem' H1 locs1 → W p l e R s m args below meth c H1 locs1 cells slots Q (F0 m (pc + 3) ls (ov.toList ++ rest))) : W p l e R s m args below meth c H locs cells slots Q (F0 m pc ls (As.reverse ++ rest)) := by
  have hts := hC.ts
  exact c_go hF hH (va_runSN (host := host) (As := As) (rest := rest) (n := n) ⟨hC.x, hC.b, hC.ml, hC.ow, hts⟩ hM ⟨⟨⟨rfl, rfl, hR.1, hR.2.1, WS_warm hts k5, List.mem_cons_self⟩, hts _ k5, hts _ k4, hn1, arity_s hn2, va_Nw.use rfl k1⟩, hts _ k2, trivial⟩ ⟨gPc_blind hB, c_pre hC hH hX⟩ rfl hn hls rfl (lv_room hW) hdg ⟨hR.2.2.1, hR.2.2.2⟩) kk
/-- a method named in a class above (x), the one that runs is y, of the receiver's class or above -/
theorem c_U {x : MethodName} {owner : String} {o ci : Nat} {fs : List Nat} {q : vw_C} {b0 : ByteArray} {m0 : Nat} {r0 : Option FieldType} (hC : gC p s m args meth c cc nL own D cy) (hX : gX A s E) (hB : eBl E) (hF : gF ad L A) (hH : gH D cy sh ad L A s.heap mem H locs) (hM : gMet l y bytes maxL ret fr lo E D cy sh ad L (.ref (ad o) :: As) mem mem' ov)
    (k1 : Cond.methodLink own index x ∈ WS) (k2 : Cond.sameMethod x.cls owner x.name x.desc ∈ WS) (k3 : Cond.selects q.1 x y ∈ WS) (k4 : Cond.initialized y.cls ∈ WS) (k5 : Cond.code y bytes maxL ret ∈ WS) (k6 : Cond.instanceMethod y ∈ WS) (k7 : Cond.instanceMethod ⟨owner, x.name, x.desc⟩ ∈ WS) (k8 : Cond.code ⟨owner, x.name, x.desc⟩ b0 m0 r0 ∈ WS) (hn1 : noMH owner) (hn2 : arity x.desc n) (ho : o ∈ L) (hs : sh o = (0, ci, fs)) (hc : vwCl[ci]? = some q) (hn : As.length = n) (hls : ls.size = nL)
    (hR : fr + 1 ≤ R.frames ∧ 8 + (maxL + 11) + lo ≤ R.locals ∧ cells ≤ R.cells ∧ slots ≤ R.slots) (hW : (rest.map fun v => v.category).sum ≤ 8) (hdg : decode cc pc = .ok (.invokevirtual index, 3))
    (kk : ∀ (H1 : Heap) (locs1 : List Loc), gH D cy sh ad L A s.heap mem' H1 locs1 → W p l e R s m args below meth c H1 locs1 cells slots Q (F0 m (pc + 3) ls (ov.toList ++ rest))) : W p l e R s m args below meth c H locs cells slots Q (F0 m pc ls (As.reverse ++ .ref (ad o) :: rest)) := by
  have hts := hC.ts
  exact c_go hF hH (va_runU (C := q.1) (owner := owner) (x := x) (As := As) (rest := rest) (n := n) ⟨hC.x, hC.b, hC.ml, hC.ow, hts⟩ hM ⟨⟨rfl, rfl, hR.1, hR.2.1, WS_warm hts k5, List.mem_cons_self⟩, hts _ k5, hts _ k4, hn1, arity_s hn2, hts _ k1, hts _ k2, va_Decl.of (hts _ k7) (hts _ k8), hts _ k3, hts _ k6⟩ ⟨gPc_blind hB, c_recv hC hH ho hs hc, c_pre hC hH hX⟩ rfl hn hls rfl (lv_room hW) hdg ⟨hR.2.2.1, hR.2.2.2⟩) kk
/-- super.y(..) -/
theorem c_SU {o ci : Nat} {fs : List Nat} {q : vw_C} (hC : gC p s m args meth c cc nL own D cy) (hX : gX A s E) (hB : eBl E) (hF : gF ad L A) (hH : gH D cy sh ad L A s.heap mem H locs) (hM : gMet l y bytes maxL ret fr lo E D cy sh ad L (.ref (ad o) :: As) mem mem' ov)
    (k1 : Cond.methodLink own index y ∈ WS) (k2 : Cond.sameMethod y.cls y.cls y.name y.desc ∈ WS) (k3 : Cond.superclass own y.cls ∈ WS) (k4 : Cond.initialized y.cls ∈ WS) (k5 : Cond.code y bytes maxL ret ∈ WS) (k6 : Cond.instanceMethod y ∈ WS) (hno : y.name ≠ "<init>") (hn2 : arity y.desc n) (ho : o ∈ L) (hs : sh o = (0, ci, fs)) (hc : vwCl[ci]? = some q) (hn : As.length = n) (hls : ls.size = nL)
    (hR : fr + 1 ≤ R.frames ∧ 8 + (maxL + 11) + lo ≤ R.locals ∧ cells ≤ R.cells ∧ slots ≤ R.slots) (hW : (rest.map fun v => v.category).sum ≤ 8) (hdg : decode cc pc = .ok (.invokespecial index, 3))
    (kk : ∀ (H1 : Heap) (locs1 : List Loc), gH D cy sh ad L A s.heap mem' H1 locs1 → W p l e R s m args below meth c H1 locs1 cells slots Q (F0 m (pc + 3) ls (ov.toList ++ rest))) : W p l e R s m args below meth c H locs cells slots Q (F0 m pc ls (As.reverse ++ .ref (ad o) :: rest)) := by
  have hts := hC.ts
  exact c_go hF hH (va_runSU (C := q.1) (cC := D.1 ci) (As := As) (rest := rest) (n := n) (hC.K.1 ci q hc).2 ⟨hC.x, hC.b, hC.ml, hC.ow, hts⟩ hM ⟨⟨rfl, rfl, hR.1, hR.2.1, WS_warm hts k5, List.mem_cons_self⟩, hts _ k1, hts _ k2, hts _ k3, hts _ k6, hts _ k4, hts _ k5, hno, arity_s hn2⟩ ⟨gPc_blind hB, c_recv hC hH ho hs hc, c_pre hC hH hX⟩ rfl hn hls rfl (lv_room hW) hdg ⟨hR.2.2.1, hR.2.2.2⟩) kk
end GC
