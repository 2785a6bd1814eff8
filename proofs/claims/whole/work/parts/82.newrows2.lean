/-! rows of methods that make cells: rows of references, calls, starts -/
section NQ
variable {p : Program} {l : Launch} {e : Env} {R : Room} {s : State} {m : MethodId} {args : Array Value} {below : List Frame} {meth : Method} {c : Code} {H : Heap} {locs : List Loc} {cells slots : Nat} {Q : State → Prop}
variable {cc : ByteArray} {nL : Nat} {own : String} {pc : Nat} {ls : Array Slot} {rest : List Value} {D : va_G} {cy : Nat → ClassId} {sh : Nat → gShp} {ad : Nat → Nat} {L : List Nat} {A : Nat → Prop} {mem : gMem}
/-- a new row of references -/
theorem n_newq {j N t index : Nat} {n : Int32} {C : String} (hC : gC p s m args meth c cc nL own D cy) (hG : gG D cy sh ad L A s.heap mem H locs) (hA : ∀ q, s.heap.size ≤ q → A q) (hj : j ∉ L) (hs : sh j = (t + 5, N, [])) (k1 : Cond.classLink own index C ∈ WS) (hov : va_AO C s) (ht : (gTys cy)[t + 4]? = some (cy (t + 4), .object C)) (hn : n = nI N) (hN : N < 1000) (hcells : cells + 1 ≤ R.cells) (hslots : slots + N ≤ R.slots) (hdg : decode cc pc = .ok (.anewarray index, 3))
    (kk : ∀ (ad' : Nat → Nat) (H1 : Heap) (b : Nat), (∀ o ∈ L, ad' o = ad o) → ad' j = b → gG D cy sh ad' (j :: L) A s.heap mem H1 locs → W p l e R s m args below meth c H1 locs (cells + 1) (slots + N) Q (F0 m (pc + 3) ls (.ref b :: rest))) : W p l e R s m args below meth c H locs cells slots Q (F0 m pc ls (.int n :: rest)) := by
  subst hn
  refine va_newq (N' := N) hC.x hC.b hC.ow (hC.ts _ k1) hov hC.K hG.2.1.1 (gW_D hG.1.1 hG.1.2) hG.2.1.2 hA (nI_pos (by omega)) (ixN (by omega)) ?_ hcells hslots hdg (fun q cA H1 hK1 hP hD hS => ?_)
  · exact Nat.le_trans (Nat.mul_le_mul (show N ≤ 1000 by omega) (Nat.le_refl 4)) (Nat.le_of_ble_eq_true rfl)
  · have ec := cy_eq hC.K hK1 ht
    subst ec
    have hz := hG.2.2.1 j hj
    obtain ⟨ad', e1, e2, e3⟩ := a_ext hG hj (by rw [hs]; exact fun c h => by cases h) (by
      rw [hs]
      show Sum.inl (cy (t + 4), N, Sum.inr (Sum.inr (Sum.inr (Sum.inr (fun k => (gR mem j k).map ad))))) = _
      rw [show (fun k => (gR mem j k).map ad) = fun _ => none from funext fun k => by rw [(hz k).2.2]; rfl]) hP hD hS
    exact kk ad' H1 q e1 e2 e3
/-- a reference into such a row -/
theorem n_aast {o n t j a b ci : Nat} {i : Int32} {fs : List Nat} {E : String} {r : vw_C} (hC : gC p s m args meth c cc nL own D cy) (hG : gG D cy sh ad L A s.heap mem H locs) (ha : ad o = a) (hb : ad j = b) (ho : o ∈ L) (hj : j ∈ L) (hs : sh o = (t + 5, n, [])) (hsj : sh j = (0, ci, fs)) (ht : (gTys cy)[t + 4]? = some (cy (t + 4), .object E)) (hc : vwCl[ci]? = some r) (hE : r.1 = E ∨ va_Nw (.castable r.1 E) s) (hi : okI i n) (hdg : decode cc pc = .ok (.aastore, 1))
    (kk : ∀ (H1 : Heap) (locs1 : List Loc), gG D cy sh ad L A s.heap (gsR mem o (ix i) (some j)) H1 locs1 → W p l e R s m args below meth c H1 locs1 cells slots Q (F0 m (pc + 1) ls rest)) : W p l e R s m args below meth c H locs cells slots Q (F0 m pc ls (.ref b :: .int i :: .ref a :: rest)) := by
  subst ha; subst hb
  obtain ⟨hF, hH, hZ, hCl⟩ := hG
  obtain ⟨q, hq, hw⟩ := gW_at (cy := cy) (sh := sh) (ad := ad) (m := mem) ho
  obtain ⟨qk, hqk, hwk⟩ := gW_at (cy := cy) (sh := sh) (ad := ad) (m := mem) hj
  have hw2 : (gW cy sh ad L mem)[q]? = some (ad o, .inl (cy (t + 4), n, .inr (.inr (.inr (.inr (fun k => (gR mem o k).map ad)))))) := by rw [hw, hs]; rfl
  have hwk2 : (gW cy sh ad L mem)[qk]? = some (ad j, .inr (ci, gFs ad mem j fs)) := by rw [hwk, hsj]; rfl
  have up : va_up (fun k => (gR mem o k).map ad) i.toNatClampNeg (some (ad j)) = fun k => (gR (gsR mem o (ix i) (some j)) o k).map ad := by
    funext k
    unfold va_up
    rw [gR_sR]
    by_cases hk : k = i.toNatClampNeg
    · rw [if_pos hk, if_pos ⟨rfl, hk⟩]; rfl
    · rw [if_neg hk, if_neg (fun z => hk z.2)]
  have hkk : ∀ (H1 : Heap) (locs1 : List Loc), va_P D vwCl ((gW cy sh ad L mem).set q (ad o, .inl (cy (t + 4), n, .inr (.inr (.inr (.inr (va_up (fun k => (gR mem o k).map ad) i.toNatClampNeg (some (ad j))))))))) H1 → va_D A ((gW cy sh ad L mem).set q (ad o, .inl (cy (t + 4), n, .inr (.inr (.inr (.inr (va_up (fun k => (gR mem o k).map ad) i.toNatClampNeg (some (ad j))))))))) → va_S A s.heap H1 locs1 → W p l e R s m args below meth c H1 locs1 cells slots Q (F0 m (pc + 1) ls rest) := by
    intro H1 locs1 hP hD hS
    rw [up, gW_set (m' := gsR mem o (ix i) (some j)) hF.1.1 hq (by rw [hs]; rfl) (fun _ hb => gCell_sR hb)] at hP
    exact kk H1 locs1 ⟨hF, ⟨hP, hS⟩, gZ_sR hZ ho, gCl_sR hCl (fun b hb => by cases hb; exact hj)⟩
  rcases hE with hE | hE
  · subst hE
    exact va_astq hC.x hC.b hC.K hH.P (gW_D hF.1 hF.2) hH.S q (t + 4) qk ci hw2 ht hwk2 hc (okI_in hi) hdg hkk
  · exact va_astqO hC.x hC.b hC.K hH.P (gW_D hF.1 hF.2) hH.S q (t + 4) qk ci hw2 ht hE hwk2 hc (okI_in hi) hdg hkk
/-- Object's constructor -/
theorem n_obj {index a : Nat} (hC : gC p s m args meth c cc nL own D cy) (hls : ls.size = nL) (k1 : Cond.methodLink own index objectInit ∈ WS) (hR : 1 ≤ R.frames ∧ (rest.map fun v => v.category).sum + 12 ≤ R.locals) (hdg : decode cc pc = .ok (.invokespecial index, 3))
    (kk : W p l e R s m args below meth c H locs cells slots Q (F0 m (pc + 3) ls rest)) : W p l e R s m args below meth c H locs cells slots Q (F0 m pc ls (.ref a :: rest)) :=
  W.objInit hC.x hC.b hC.ow (hC.ts _ k1) (hC.ts _ kw11) (hC.ts _ kw12) rfl (hls.trans hC.ml.symm) rfl hdg hR.1 (by show 2 * 0 + _ + 12 ≤ _; omega) kk
/-- behind a call of one that makes cells -/
theorem n_go {sh' : Nat → gShp} {L' : List Nat} {mem' : gMem} {rv : (Nat → Nat) → Option Value} {E : State → Prop} {a : Array Value} {st0 : List Value} {mc ms : Nat} (hG : gG D cy sh ad L A s.heap mem H locs) (hA : ∀ q, s.heap.size ≤ q → A q) (hZ : gZ L' mem') (hCl : gCl sh' L' mem')
    (hr : va_Run p l e R s m args below meth c H locs cells slots mc ms (F0 m pc ls st0) rest (gNw E D cy sh' ad L L' mem' rv H.size a) (aA ad L H.size))
    (kk : ∀ (ad' : Nat → Nat) (H1 : Heap) (locs1 : List Loc), (∀ o ∈ L, ad' o = ad o) → gG D cy sh' ad' L' A s.heap mem' H1 locs1 → W p l e R s m args below meth c H1 locs1 (cells + mc) (slots + ms) Q (F0 m (pc + 3) ls ((rv ad').toList ++ rest))) : W p l e R s m args below meth c H locs cells slots Q (F0 m pc ls st0) := by
  intro T hT X
  obtain ⟨v, st₀, t, T', L1, h0, X', hL, e1, e2, ⟨⟨ad', ha, hv, hp, hF'⟩, hz, hk⟩, st⟩ := hr T hT X
  cases hv
  rw [h0] at hz hk
  obtain ⟨hF, hH, -, -⟩ := hG
  have hAA : ∀ q, aA ad L H.size q → A q := fun q h => by
    rcases h with ⟨o, ho, hq⟩ | h
    · rw [hq]; exact hF.2 o ho
    · exact hA q (Nat.le_trans hH.S.1 h)
  obtain ⟨t2, a1, b1⟩ := kk ad' T'.heap (locs ++ L1) ha ⟨⟨hF'.1, fun o ho => hAA _ (hF'.2 o ho)⟩, ⟨by rw [e1]; exact hp, Nat.le_trans hH.S.1 (by rw [e1]; exact hz), fun q h1 h2 => by
      rw [e1, hk q (Nat.lt_of_lt_of_le h1 hH.S.1) (fun z => h2 (hAA q z))]; exact hH.S.2.1 q h1 h2, fun q hq => by
      rcases List.mem_append.mp hq with h | h
      · exact hH.S.2.2 q h
      · exact hAA _ (hL q h)⟩, hZ, hCl⟩ T' rfl X'
  exact ⟨t2, st t2 a1, b1⟩
/-- a constructor called -/
theorem n_init {sh' : Nat → gShp} {L' : List Nat} {mem' : gMem} {E : State → Prop} {y : MethodName} {bytes : ByteArray} {maxL fr lo index mc ms n b : Nat} {As : List Value} (hC : gC p s m args meth c cc nL own D cy) (hX : gX A s E) (hB : eBl E) (hG : gG D cy sh ad L A s.heap mem H locs) (hA : ∀ q, s.heap.size ≤ q → A q) (hZ : gZ L' mem') (hCl : gCl sh' L' mem') (hM : gNew l y bytes maxL none fr lo mc ms E D cy sh sh' ad L L' (.ref b :: As) mem mem' (fun _ => none))
    (k1 : Cond.methodLink own index y ∈ WS) (k2 : Cond.instanceMethod y ∈ WS) (k4 : Cond.initialized y.cls ∈ WS) (k5 : Cond.code y bytes maxL none ∈ WS) (hno : y.name = "<init>") (hn1 : noMH y.cls) (hn2 : arity y.desc n) (hn : As.length = n) (hls : ls.size = nL)
    (hR : fr + 1 ≤ R.frames ∧ 8 + (maxL + 11) + lo ≤ R.locals ∧ cells + mc ≤ R.cells ∧ slots + ms ≤ R.slots) (hW : (rest.map fun v => v.category).sum ≤ 8) (hdg : decode cc pc = .ok (.invokespecial index, 3))
    (kk : ∀ (ad' : Nat → Nat) (H1 : Heap) (locs1 : List Loc), (∀ o ∈ L, ad' o = ad o) → gG D cy sh' ad' L' A s.heap mem' H1 locs1 → W p l e R s m args below meth c H1 locs1 (cells + mc) (slots + ms) Q (F0 m (pc + 3) ls rest)) : W p l e R s m args below meth c H locs cells slots Q (F0 m pc ls (As.reverse ++ .ref b :: rest)) := by
  have hts := hC.ts
  exact n_go hG hA hZ hCl (va_runI (As := As) (rest := rest) (n := n) ⟨hC.x, hC.b, hC.ml, hC.ow, hts⟩ (hM H.size) ⟨⟨rfl, rfl, hR.1, hR.2.1, WS_warm hts k5, List.mem_cons_self, hts _ k5, hts _ k4, hn1, arity_s hn2, hts _ k1⟩, hno, hts _ k2⟩ ⟨gNp_blind hB, fun U hU hW => ⟨rfl, by rw [hU], by rw [hU]; exact hG.2.1.P, va_K.moved hW.alike hC.K, hX H locs hG.2.1.S U hU hW⟩⟩ rfl hn hls rfl (lv_room hW) hdg ⟨hR.2.2.1, hR.2.2.2⟩) kk
/-- a static method that makes cells -/
theorem n_stat {sh' : Nat → gShp} {L' : List Nat} {mem' : gMem} {rv : (Nat → Nat) → Option Value} {E : State → Prop} {y : MethodName} {bytes : ByteArray} {ret : Option FieldType} {maxL fr lo index mc ms n : Nat} {As : List Value} (hC : gC p s m args meth c cc nL own D cy) (hX : gX A s E) (hB : eBl E) (hG : gG D cy sh ad L A s.heap mem H locs) (hA : ∀ q, s.heap.size ≤ q → A q) (hZ : gZ L' mem') (hCl : gCl sh' L' mem') (hM : gNew l y bytes maxL ret fr lo mc ms E D cy sh sh' ad L L' As mem mem' rv)
    (k1 : Cond.methodLink own index y ∈ WS) (k2 : Cond.static y ∈ WS) (k4 : Cond.initialized y.cls ∈ WS) (k5 : Cond.code y bytes maxL ret ∈ WS) (hn1 : noMH y.cls) (hn2 : arity y.desc n) (hn : As.length = n) (hls : ls.size = nL)
    (hR : fr + 1 ≤ R.frames ∧ 8 + (maxL + 11) + lo ≤ R.locals ∧ cells + mc ≤ R.cells ∧ slots + ms ≤ R.slots) (hW : (rest.map fun v => v.category).sum ≤ 8) (hdg : decode cc pc = .ok (.invokestatic index, 3))
    (kk : ∀ (ad' : Nat → Nat) (H1 : Heap) (locs1 : List Loc), (∀ o ∈ L, ad' o = ad o) → gG D cy sh' ad' L' A s.heap mem' H1 locs1 → W p l e R s m args below meth c H1 locs1 (cells + mc) (slots + ms) Q (F0 m (pc + 3) ls ((rv ad').toList ++ rest))) : W p l e R s m args below meth c H locs cells slots Q (F0 m pc ls (As.reverse ++ rest)) := by
  have hts := hC.ts
  exact n_go hG hA hZ hCl (va_runS (As := As) (rest := rest) (n := n) ⟨hC.x, hC.b, hC.ml, hC.ow, hts⟩ (hM H.size) ⟨⟨rfl, rfl, hR.1, hR.2.1, WS_warm hts k5, List.mem_cons_self, hts _ k5, hts _ k4, hn1, arity_s hn2, hts _ k1⟩, hts _ k2⟩ ⟨gNp_blind hB, fun U hU hW => ⟨rfl, by rw [hU], by rw [hU]; exact hG.2.1.P, va_K.moved hW.alike hC.K, hX H locs hG.2.1.S U hU hW⟩⟩ rfl hn hls rfl (lv_room hW) hdg ⟨hR.2.2.1, hR.2.2.2⟩) kk
end NQ
/-- where such a method begins -/
theorem n_start {l : Launch} {y : MethodName} {cc : ByteArray} {nL : Nat} {ret : Option FieldType} {fr lo mc ms : Nat} {E : State → Prop} {D : va_G} {cy : Nat → ClassId} {sh sh' : Nat → gShp} {ad : Nat → Nat} {L L' : List Nat} {av : List Value} {mem mem' : gMem} {rv : (Nat → Nat) → Option Value} {own : String} (hpl : plainFor y = true) (ho : y.cls = own) (hk : gOk ad L) (hZ : gZ L mem) (hCl : gCl sh L mem) (hE : ∀ (sz : Nat) (s : State), s.heap.size = sz → E s → gX (aA ad L sz) s E) (hlen : (lg_sl av).length ≤ nL)
    (body : ∀ (p : Program) (e : Env) (s : State) (m : MethodId) (args : Array Value) (below : List Frame) (meth : Method) (c : Code) (R : Room) (Q : State → Prop) (A : Nat → Prop), args = av.toArray → R = gRn fr lo mc ms → A = aA ad L s.heap.size → (∀ q, s.heap.size ≤ q → A q) → Q = MQ below (gNw E D cy sh' ad L L' mem' rv s.heap.size) args s mc ms A → E s → gC p s m args meth c cc nL own D cy → meth.name = y.name → meth.sig.returnType = ret → gX A s E → ∀ (H : Heap) (locs : List Loc) (ls : Array Slot), gG D cy sh ad L A s.heap mem H locs → lv_has ls nL (lv_args 0 av) →
      W p l e R s m args below meth c H locs 0 0 Q (F0 m 0 ls [])) : gNew l y cc nL ret fr lo mc ms E D cy sh sh' ad L L' av mem mem' rv := by
  intro sz
  refine va_MetF (cc := cc) (maxL := nL) (ret := ret) hpl rfl ?_
  intro p e s m args below meth c s₁ B hml hv
  obtain ⟨rfl, hsz, hP, hK, hEs⟩ := hv
  have hsz : s.heap.size = sz := hsz
  subst hsz
  have hts0 := atoms_spec (ws := Cond.code y cc nL ret :: WS) B.pre
  rw [lg_entry_eq]
  exact body p e s m _ below meth c _ _ (aA ad L s.heap.size) rfl rfl rfl (fun q h => Or.inr h) rfl hEs ⟨B.exec, B.bytes, hml, by rw [← ho]; exact findClass_of_methodNamed B.named, fun w h => hts0 w (List.mem_cons_of_mem _ h), hK, B.notSynchronized⟩ (name_of_methodNamed B.named B.method).1 B.returns (hE _ s rfl hEs) s.heap [] _ ⟨⟨hk, fun o ho => Or.inl ⟨o, ho, rfl⟩⟩, ⟨hP, va_S.rf⟩, hZ, hCl⟩ (lv_entry av hlen)
