/-! methods that make cells: the world grows by numbers, addresses of new numbers are new -/
def oA (U : State) : Prop := (Cond.arrayOver (.array .long)).before #[] U = true
theorem oA_moved {u U : State} (hvm : u.vm.Alike U.vm) (h : oA u) : oA U := by
  obtain ⟨comp, c, k, h1, h2, h3, h4, h5⟩ := arrayOverA_spec h
  obtain ⟨k', hk', he⟩ := hvm.2.2 _ _ h3
  have hi : (U.vm.classes.findIdx? fun (x : Class) => match x.kind with | .array component _ => component == comp | _ => false) = some c := by
    rw [hvm.findIdx?_eq _ (fun _ => rfl)]
    exact h2
  have hkind : k'.kind = .array comp (.array .long) := by rw [he]; exact h4
  have f1 : U.vm.findClass (FieldType.array .long).toString = some comp := by rw [hvm.findClass]; exact h1
  have f2 : U.vm.findClass ("[" ++ (FieldType.array .long).toString) = some c := by rw [hvm.findClass]; exact h5
  unfold oA Cond.before Cond.holds
  simp only [Cond.value]
  rw [f1, Option.bind_some]
  refine (congrArg (fun o : Option Nat => (o.bind (fun c => (U.vm.classes[c]?).map fun (k : Class) => match k.kind with | .array _ ty => decide (ty = FieldType.array .long) && decide (U.vm.findClass ("[" ++ (FieldType.array .long).toString) = some c) | _ => false) == some true)) hi).trans ?_
  simp [hk', hkind, f2]
/-- what is asked of the tables, beside the words -/
def EN (U : State) : Prop := gN gYes gNo U ∧ va_AO "OnTiptoe$Walker" U ∧ va_AO "OnTiptoe$Night" U ∧ oA U
theorem EN_warm {s U : State} (hW : s.WarmedH U.vm) (h : EN s) : EN U := ⟨gN.warm hW h.1, va_AO.moved hW.alike h.2.1, va_AO.moved hW.alike h.2.2.1, oA_moved hW.alike h.2.2.2⟩
theorem EN_bl : eBl EN := by
  intro a U g mk h
  have e : (U.calling g mk a).vm = U.vm := rfl
  refine ⟨⟨fun q hq => va_tabs rfl e.symm (h.1.1 q hq), fun q hq => va_tabs rfl e.symm (h.1.2.1 q hq), fun q hq => (h.1.2.2 q hq).moved (u := U) (Vm.Alike.refl U.vm)⟩, va_AO.moved (u := U) (Vm.Alike.refl U.vm) h.2.1, va_AO.moved (u := U) (Vm.Alike.refl U.vm) h.2.2.1, oA_moved (u := U) (Vm.Alike.refl U.vm) h.2.2.2⟩
/-- nothing lies outside the world; what is named in it lies in it -/
def gZ (L : List Nat) (mem : gMem) : Prop := ∀ o : Nat, o ∉ L → ∀ k : Nat, gI mem o k = 0 ∧ gJ mem o k = 0 ∧ gR mem o k = none
def gCl (sh : Nat → gShp) (L : List Nat) (mem : gMem) : Prop := ∀ o : Nat, o ∈ L → (∀ k b : Nat, gR mem o k = some b → b ∈ L) ∧ ∀ c : Nat, c + 2 ∈ (sh o).2.2 → c ∈ L
def gG (D : va_G) (cy : Nat → ClassId) (sh : Nat → gShp) (ad : Nat → Nat) (L : List Nat) (A : Nat → Prop) (H0 : Heap) (mem : gMem) (H : Heap) (locs : List Loc) : Prop := gF ad L A ∧ gH D cy sh ad L A H0 mem H locs ∧ gZ L mem ∧ gCl sh L mem
def aA (ad : Nat → Nat) (L : List Nat) (sz : Nat) : Nat → Prop := fun q => gA ad L q ∨ sz ≤ q
theorem gZ_sI {L : List Nat} {mem : gMem} {o k : Nat} {v : Int32} (h : gZ L mem) (ho : o ∈ L) : gZ L (gsI mem o k v) := by
  intro b hb j
  have hne : b ≠ o := fun e => hb (e ▸ ho)
  refine ⟨?_, (h b hb j).2.1, (h b hb j).2.2⟩
  rw [gI_sI, if_neg (fun q => hne q.1)]
  exact (h b hb j).1
theorem gZ_sR {L : List Nat} {mem : gMem} {o k : Nat} {v : Option Nat} (h : gZ L mem) (ho : o ∈ L) : gZ L (gsR mem o k v) := by
  intro b hb j
  have hne : b ≠ o := fun e => hb (e ▸ ho)
  refine ⟨(h b hb j).1, (h b hb j).2.1, ?_⟩
  rw [gR_sR, if_neg (fun q => hne q.1)]
  exact (h b hb j).2.2
theorem gCl_sI {sh : Nat → gShp} {L : List Nat} {mem : gMem} {o k : Nat} {v : Int32} (h : gCl sh L mem) : gCl sh L (gsI mem o k v) := h
theorem gCl_sR {sh : Nat → gShp} {L : List Nat} {mem : gMem} {o k : Nat} {v : Option Nat} (h : gCl sh L mem) (hv : ∀ b, v = some b → b ∈ L) : gCl sh L (gsR mem o k v) := by
  intro x hx
  refine ⟨fun j b hb => ?_, (h x hx).2⟩
  rw [gR_sR] at hb
  split at hb
  · exact hv b hb
  · exact (h x hx).1 j b hb
theorem gCell_ad {cy : Nat → ClassId} {ad ad' : Nat → Nat} {m : gMem} {o : Nat} {sp : gShp} (h1 : ∀ k b : Nat, gR m o k = some b → ad' b = ad b) (h2 : ∀ c : Nat, c + 2 ∈ sp.2.2 → ad' c = ad c) : gCell cy ad' m o sp = gCell cy ad m o sp := by
  have e1 : ∀ j, (gR m o j).map ad' = (gR m o j).map ad := by
    intro j
    cases hj : gR m o j with
    | none => rfl
    | some b => simp [h1 j b hj]
  obtain ⟨t, n, fs⟩ := sp
  match t with
  | 0 =>
    have e2 : gFs ad' m o fs = gFs ad m o fs := by
      unfold gFs
      apply List.map_congr_left
      intro k hk
      have hk := List.mem_range.mp hk
      have hm : fs.getD k 0 ∈ fs := by
        rw [List.getD_eq_getElem?_getD, List.getElem?_eq_getElem hk]
        exact List.getElem_mem hk
      generalize fs.getD k 0 = c at hm ⊢
      match c with
      | 0 => rfl
      | 1 => simp only [gVal, e1]
      | c + 2 => simp only [gVal, h2 c hm]
    simp only [gCell, e2]
  | 1 => rfl
  | 2 => rfl
  | 3 => rfl
  | 4 => rfl
  | t + 5 => simp only [gCell, e1]
theorem gP_iff {D : va_G} {cy : Nat → ClassId} {sh : Nat → gShp} {ad : Nat → Nat} {L : List Nat} {mem : gMem} {H : Heap} : va_P D vwCl (gW cy sh ad L mem) H ↔ ∀ o ∈ L, va_at D vwCl (ad o, gCell cy ad mem o (sh o)) H := by
  constructor
  · intro h o ho
    obtain ⟨q, -, hw⟩ := gW_at (cy := cy) (sh := sh) (ad := ad) (m := mem) ho
    exact h q _ hw
  · intro h k x hx
    obtain ⟨o, ho, rfl⟩ := gW_of hx
    exact h o (List.mem_of_getElem? ho)
/-- one cell more -/
theorem a_ext {D : va_G} {cy : Nat → ClassId} {sh : Nat → gShp} {ad : Nat → Nat} {L : List Nat} {A : Nat → Prop} {H0 H H1 : Heap} {mem : gMem} {locs locs1 : List Loc} {j q : Nat} {e : va_E} (hG : gG D cy sh ad L A H0 mem H locs) (hj : j ∉ L) (hsh : ∀ c : Nat, c + 2 ∉ (sh j).2.2) (he : gCell cy ad mem j (sh j) = e) (hP : va_P D vwCl (gW cy sh ad L mem ++ [(q, e)]) H1) (hD : va_D A (gW cy sh ad L mem ++ [(q, e)])) (hS : va_S A H0 H1 locs1) : ∃ ad' : Nat → Nat, (∀ o ∈ L, ad' o = ad o) ∧ ad' j = q ∧ gG D cy sh ad' (j :: L) A H0 mem H1 locs1 := by
  obtain ⟨hF, hH, hZ, hCl⟩ := hG
  have hlen : (gW cy sh ad L mem).length = L.length := by simp [gW]
  have hlast : (gW cy sh ad L mem ++ [(q, e)])[L.length]? = some (q, e) := by rw [List.getElem?_append_right (by omega), hlen, Nat.sub_self]; rfl
  have hold : ∀ o ∈ L, ∃ k, k < L.length ∧ (gW cy sh ad L mem ++ [(q, e)])[k]? = some (ad o, gCell cy ad mem o (sh o)) := by
    intro o ho
    obtain ⟨k, hk, hw⟩ := gW_at (cy := cy) (sh := sh) (ad := ad) (m := mem) ho
    have hl := (List.getElem?_eq_some_iff.mp hk).1
    exact ⟨k, hl, by rw [List.getElem?_append_left (by omega)]; exact hw⟩
  have hne : ∀ o ∈ L, ad o ≠ q := by
    intro o ho hq
    obtain ⟨k, hk, hw⟩ := hold o ho
    have := hD.1 k L.length _ _ hw hlast hq
    omega
  refine ⟨fun o => if o = j then q else ad o, fun o ho => if_neg (fun z : o = j => hj (z ▸ ho)), if_pos rfl, ⟨⟨?_, ?_⟩, ?_⟩, ⟨?_, hS⟩, ?_, ?_⟩
  · exact List.nodup_cons.mpr ⟨hj, hF.1.1⟩
  · intro a ha b hb hab
    rcases List.mem_cons.mp ha with ea | ha <;> rcases List.mem_cons.mp hb with eb | hb
    · rw [ea, eb]
    · exfalso
      have hbj : b ≠ j := fun z => hj (z ▸ hb)
      simp only [ea, if_true, hbj, if_false] at hab
      exact hne b hb hab.symm
    · exfalso
      have haj : a ≠ j := fun z => hj (z ▸ ha)
      simp only [eb, if_true, haj, if_false] at hab
      exact hne a ha hab
    · have haj : a ≠ j := fun z => hj (z ▸ ha)
      have hbj : b ≠ j := fun z => hj (z ▸ hb)
      simp only [haj, hbj, if_false] at hab
      exact hF.1.2 a ha b hb hab
  · intro o ho
    rcases List.mem_cons.mp ho with e1 | ho
    · simp only [e1, if_true]
      exact hD.2 _ _ hlast
    · have hoj : o ≠ j := fun z => hj (z ▸ ho)
      simp only [hoj, if_false]
      exact hF.2 o ho
  · rw [gP_iff]
    intro o ho
    rcases List.mem_cons.mp ho with e1 | ho
    · subst e1
      have e2 : gCell cy (fun o' => if o' = o then q else ad o') mem o (sh o) = e := by
        rw [← he]
        exact gCell_ad (fun k b hb => by rw [(hZ o hj k).2.2] at hb; cases hb) (fun c hc => absurd hc (hsh c))
      rw [e2]
      simp only [if_true]
      exact hP _ _ hlast
    · have hoj : o ≠ j := fun z => hj (z ▸ ho)
      have e2 : gCell cy (fun o' => if o' = j then q else ad o') mem o (sh o) = gCell cy ad mem o (sh o) := by
        refine gCell_ad (fun k b hb => if_neg (fun z : b = j => hj (z ▸ (hCl o ho).1 k b hb))) (fun c hc => if_neg (fun z : c = j => hj (z ▸ (hCl o ho).2 c hc)))
      rw [e2]
      simp only [hoj, if_false]
      obtain ⟨k, -, hw⟩ := hold o ho
      exact hP k _ hw
  · intro o ho
    exact hZ o (fun z => ho (List.mem_cons_of_mem _ z))
  · intro o ho
    rcases List.mem_cons.mp ho with e1 | ho
    · subst e1
      exact ⟨fun k b hb => (by rw [(hZ o hj k).2.2] at hb; cases hb), fun c hc => absurd hc (hsh c)⟩
    · exact ⟨fun k b hb => List.mem_cons_of_mem _ ((hCl o ho).1 k b hb), fun c hc => List.mem_cons_of_mem _ ((hCl o ho).2 c hc)⟩
def dvC : Nat → Value
  | 0 => .int 0
  | _ => .null
theorem gFs_0 {ad : Nat → Nat} {mem : gMem} {o : Nat} {fs : List Nat} (hz : ∀ k : Nat, gI mem o k = 0 ∧ gJ mem o k = 0 ∧ gR mem o k = none) (hs : ∀ c : Nat, c + 2 ∉ fs) : gFs ad mem o fs = fs.map dvC := by
  apply List.ext_getElem?
  intro k
  by_cases hk : k < fs.length
  · obtain ⟨c, hc⟩ : ∃ c, fs[k]? = some c := ⟨_, List.getElem?_eq_getElem hk⟩
    rw [gFs_at hc, List.getElem?_map, hc]
    have hm := List.mem_of_getElem? hc
    match c with
    | 0 => simp [gVal, (hz k).1, dvC]
    | 1 => simp [gVal, (hz k).2.2, dvC, va_rf]
    | c + 2 => exact absurd hm (hs c)
  · rw [List.getElem?_eq_none (by rw [gFs_len]; omega), List.getElem?_eq_none (by rw [List.length_map]; omega)]
theorem cy_eq {D : va_G} {tys : List (ClassId × FieldType)} {s : State} {cA c0 : ClassId} {t0 : Nat} {ty : FieldType} (hK : va_K D vwCl tys s) (hK1 : va_K D vwCl (tys ++ [(cA, ty)]) s) (h0 : tys[t0]? = some (c0, ty)) : cA = c0 := by
  have h1 := (hK.2 t0 _ h0).2
  have h2 := (hK1.2 tys.length (cA, ty) (by rw [List.getElem?_append_right (Nat.le_refl _), Nat.sub_self]; rfl)).2
  have key : ∀ ty : FieldType, va_RA s c0 ty → va_RA s cA ty → cA = c0 := by
    intro ty h1 h2
    cases ty with
    | object C =>
      obtain ⟨-, -, -, -, -, e1⟩ := h1
      obtain ⟨-, -, -, -, -, e2⟩ := h2
      exact Option.some.inj (e2.symm.trans e1)
    | _ => exact Option.some.inj (h2.symm.trans h1)
  exact key ty h1 h2
section GA
variable {p : Program} {l : Launch} {e : Env} {R : Room} {s : State} {m : MethodId} {args : Array Value} {below : List Frame} {meth : Method} {c : Code} {H : Heap} {locs : List Loc} {cells slots : Nat} {Q : State → Prop}
variable {cc : ByteArray} {nL : Nat} {own : String} {pc : Nat} {ls : Array Slot} {rest : List Value} {D : va_G} {cy : Nat → ClassId} {sh : Nat → gShp} {ad : Nat → Nat} {L : List Nat} {A : Nat → Prop} {mem : gMem}
theorem a_new {j ci N index : Nat} {C : String} {T : u_T} {ty : Nat → FieldType} {fs : List Nat} (hC : gC p s m args meth c cc nL own D cy) (hG : gG D cy sh ad L A s.heap mem H locs) (hA : ∀ q, s.heap.size ≤ q → A q) (hj : j ∉ L) (hs : sh j = (0, ci, fs)) (hfs : ∀ c : Nat, c + 2 ∉ fs)
    (hc : vwCl[ci]? = some (C, T, N)) (hin : ∀ w ∈ u_ws C T N, w ∈ WS) (hty : ∀ k, k < N → parseFieldDescriptor (T k).2.2.1 = some (ty k)) (hd : ∀ k, k < N → defaultValue (ty k) = vp_V (fs.map dvC) k) (k1 : Cond.classLink own index C ∈ WS) (k2 : Cond.instantiable C N ∈ WS) (k3 : Cond.initialized C ∈ WS) (hcells : cells + 1 ≤ R.cells) (hslots : slots + N ≤ R.slots) (hdg : decode cc pc = .ok (.new index, 3))
    (kk : ∀ (ad' : Nat → Nat) (H1 : Heap), (∀ o ∈ L, ad' o = ad o) → gG D cy sh ad' (j :: L) A s.heap mem H1 locs → W p l e R s m args below meth c H1 locs (cells + 1) (slots + N) Q (F0 m (pc + 3) ls (.ref (ad' j) :: rest))) : W p l e R s m args below meth c H locs cells slots Q (F0 m pc ls rest) := by
  have hts := hC.ts
  refine va_new (fs := fs.map dvC) (ci := ci) hC.x hC.b hts hin ty hty hC.ow (hts _ k1) (hts _ k2) (hts _ k3) hC.K hG.2.1.1 (gW_D hG.1.1 hG.1.2) hG.2.1.2 hA hc hd hcells hslots hdg (fun q H1 hP hD hS => ?_)
  obtain ⟨ad', e1, e2, e3⟩ := a_ext hG hj (by rw [hs]; exact hfs) (by rw [hs]; exact congrArg (fun z => (Sum.inr (ci, z) : va_E)) (gFs_0 (hG.2.2.1 j hj) hfs)) hP hD hS
  rw [← e2]
  exact kk ad' H1 e1 e3
end GA
