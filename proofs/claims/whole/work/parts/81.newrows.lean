/-! rows of methods that make cells -/
/-- behind such a method: the numbers that were there keep their addresses -/
def gNw (E : State → Prop) (D : va_G) (cy : Nat → ClassId) (sh' : Nat → gShp) (ad : Nat → Nat) (L L' : List Nat) (mem' : gMem) (rv : (Nat → Nat) → Option Value) (sz : Nat) : Array Value → State → Outcome → State → Prop := fun _ st oc t => (∃ ad' : Nat → Nat, (∀ o ∈ L, ad' o = ad o) ∧ oc = .returned (rv ad') ∧ va_P D vwCl (gW cy sh' ad' L' mem') t.heap ∧ gF ad' L' (aA ad L sz)) ∧ va_F (aA ad L sz) st t
abbrev gNp (av : List Value) (E : State → Prop) (D : va_G) (cy : Nat → ClassId) (sh : Nat → gShp) (ad : Nat → Nat) (L : List Nat) (mem : gMem) (sz : Nat) : Array Value → State → Prop := va_Pc av (fun U => U.heap.size = sz ∧ gPc E D cy sh ad L mem U)
abbrev gRn (fr lo mc ms : Nat) : Room := { frames := fr, cells := mc, slots := ms, locals := lo }
def gNew (l : Launch) (y : MethodName) (cc : ByteArray) (nL : Nat) (ret : Option FieldType) (fr lo mc ms : Nat) (E : State → Prop) (D : va_G) (cy : Nat → ClassId) (sh sh' : Nat → gShp) (ad : Nat → Nat) (L L' : List Nat) (av : List Value) (mem mem' : gMem) (rv : (Nat → Nat) → Option Value) : Prop :=
  ∀ sz : Nat, Met l y (Cond.code y cc nL ret :: WS) (gRn fr lo mc ms) (gNp av E D cy sh ad L mem sz) (gNw E D cy sh' ad L L' mem' rv sz) mc ms (aA ad L sz)
theorem gNp_blind {av : List Value} {E : State → Prop} {D : va_G} {cy : Nat → ClassId} {sh : Nat → gShp} {ad : Nat → Nat} {L : List Nat} {mem : gMem} {sz : Nat} (hE : eBl E) : FrameBlind (gNp av E D cy sh ad L mem sz) := by
  intro a U g mk q
  obtain ⟨q0, qs, q1, q2, q3⟩ := q
  exact ⟨q0, qs, q1, va_K.moved (u := U) (U := U.calling g mk a) (Vm.Alike.refl U.vm) q2, hE _ _ _ _ q3⟩
/-- a field that a constructor may write -/
def gPu (own : String) (index ci k : Nat) (d : String) : Prop := ∃ (C : String) (T : u_T) (N : Nat) (ty : Nat → FieldType) (ref : String), vwCl[ci]? = some (C, T, N) ∧ (∀ w ∈ u_ws C T N, w ∈ WS) ∧ (∀ j, j < N → parseFieldDescriptor (T j).2.2.1 = some (ty j)) ∧ (∀ a, a < N → ∀ b, b < N → a ≠ b → (T a).2.1 ≠ (T b).2.1) ∧ k < N ∧ Cond.fieldLink own index ref (T k).2.1 (T k).2.2.1 ∈ WS ∧ (ref = (T k).1 ∨ Cond.sameField ref (T k).1 (T k).2.1 (T k).2.2.1 ∈ WS) ∧ ((T k).2.2.2 = false ∨ ((T k).2.2.2 = true ∧ (T k).1 = own)) ∧ (T k).2.2.1 = d
theorem gZ_sJ {L : List Nat} {mem : gMem} {o k : Nat} {v : Int64} (h : gZ L mem) (ho : o ∈ L) : gZ L (gsJ mem o k v) := by
  intro b hb j
  have hne : b ≠ o := fun e => hb (e ▸ ho)
  refine ⟨(h b hb j).1, ?_, (h b hb j).2.2⟩
  rw [gJ_sJ, if_neg (fun q => hne q.1)]
  exact (h b hb j).2.1
theorem gZ_up {L : List Nat} {mem : gMem} {j : Nat} (h : gZ L mem) : gZ (j :: L) mem := fun o ho => h o (fun z => ho (List.mem_cons_of_mem _ z))
section NR
variable {p : Program} {l : Launch} {e : Env} {R : Room} {s : State} {m : MethodId} {args : Array Value} {below : List Frame} {meth : Method} {c : Code} {H : Heap} {locs : List Loc} {cells slots : Nat} {Q : State → Prop}
variable {cc : ByteArray} {nL : Nat} {own : String} {pc : Nat} {ls : Array Slot} {rest : List Value} {D : va_G} {cy : Nat → ClassId} {sh : Nat → gShp} {ad : Nat → Nat} {L : List Nat} {A : Nat → Prop} {mem : gMem}
theorem n_put {index ci k o a : Nat} {fs : List Nat} {d : String} (hC : gC p s m args meth c cc nL own D cy) (hin : meth.name = "<init>") (hG : gG D cy sh ad L A s.heap mem H locs) (hf : gPu own index ci k d) (ha : ad o = a) (ho : o ∈ L) (hs : sh o = (0, ci, fs)) {ty : FieldType} {v : Value} (hd : parseFieldDescriptor d = some ty) (hn : narrow ty v = v) (hfit : fits ty v = true) {z : Nat} (hk : fs[k]? = some z) (mem' : gMem) (hset : (gFs ad mem o fs).set k v = gFs ad mem' o fs) (hoth : ∀ b : Nat, b ≠ o → gCell cy ad mem' b (sh b) = gCell cy ad mem b (sh b)) (hZ : gZ L mem') (hCl : gCl sh L mem') (hdg : decode cc pc = .ok (.putfield index, 3))
    (kk : ∀ (H1 : Heap) (locs1 : List Loc), gG D cy sh ad L A s.heap mem' H1 locs1 → W p l e R s m args below meth c H1 locs1 cells slots Q (F0 m (pc + 3) ls rest)) : W p l e R s m args below meth c H locs cells slots Q (F0 m pc ls (v :: .ref a :: rest)) := by
  subst ha
  obtain ⟨hF, hH, -, -⟩ := hG
  obtain ⟨C, T, N, ty0, ref, h1, h2, hty, hnm, h3, h4, h5, h6, h7⟩ := hf
  obtain ⟨q, hq, hw⟩ := gW_at (cy := cy) (sh := sh) (ad := ad) (m := mem) ho
  have hw2 : (gW cy sh ad L mem)[q]? = some (ad o, .inr (ci, gFs ad mem o fs)) := by rw [hw, hs]; rfl
  have hkl : k < (gFs ad mem o fs).length := by rw [gFs_len]; exact (List.getElem?_eq_some_iff.mp hk).1
  have hsm : ∀ x, s.fieldFound? (T k).1 (T k).2.1 (T k).2.2.1 = some x → s.fieldFound? ref (T k).2.1 (T k).2.2.1 = some x := by
    rcases h5 with h5 | h5
    · subst h5; exact fun _ h => h
    · exact fun x h => u_same (hC.ts _ h5) x h
  have hkk : ∀ (H1 : Heap) (locs1 : List Loc), va_P D vwCl ((gW cy sh ad L mem).set q (ad o, .inr (ci, (gFs ad mem o fs).set k v))) H1 → va_D A ((gW cy sh ad L mem).set q (ad o, .inr (ci, (gFs ad mem o fs).set k v))) → va_S A s.heap H1 locs1 → W p l e R s m args below meth c H1 locs1 cells slots Q (F0 m (pc + 3) ls rest) := by
    intro H1 locs1 hP1 hD1 hS1
    have e1 : (gW cy sh ad L mem).set q (ad o, .inr (ci, (gFs ad mem o fs).set k v)) = gW cy sh ad L mem' := gW_set hF.1.1 hq (by rw [hs, hset]; rfl) hoth
    rw [e1] at hP1
    exact kk H1 locs1 ⟨hF, ⟨hP1, hS1⟩, hZ, hCl⟩
  rcases h6 with h6 | ⟨h6, h8⟩
  · exact va_put (ref := ref) hC.x hC.b hC.ts h2 ty0 hty hnm hC.ow hC.K hH.P (gW_D hF.1 hF.2) hH.S q hw2 h1 k h3 (hC.ts _ h4) hsm h6 (by rw [h7]; exact hd) hn hfit hkl hdg hkk
  · exact va_putF (ref := ref) hC.x hC.b hC.ts h2 ty0 hty hnm hC.ow hC.K hH.P (gW_D hF.1 hF.2) hH.S q hw2 h1 k h3 (hC.ts _ h4) hsm h6 hin h8 (by rw [h7]; exact hd) hn hfit hkl hdg hkk
theorem n_puti {index ci k o a : Nat} {fs : List Nat} {x : Int32} (hC : gC p s m args meth c cc nL own D cy) (hin : meth.name = "<init>") (hG : gG D cy sh ad L A s.heap mem H locs) (hf : gPu own index ci k "I") (ha : ad o = a) (ho : o ∈ L) (hs : sh o = (0, ci, fs)) (hk : fs[k]? = some 0) (hdg : decode cc pc = .ok (.putfield index, 3))
    (kk : ∀ (H1 : Heap) (locs1 : List Loc), gG D cy sh ad L A s.heap (gsI mem o k x) H1 locs1 → W p l e R s m args below meth c H1 locs1 cells slots Q (F0 m (pc + 3) ls rest)) : W p l e R s m args below meth c H locs cells slots Q (F0 m pc ls (.int x :: .ref a :: rest)) :=
  n_put hC hin hG hf ha ho hs (ty := .int) (by decide +kernel) rfl rfl hk (gsI mem o k x) (gFs_sI hk x) (fun _ hb => gCell_sI hb) (gZ_sI hG.2.2.1 ho) (gCl_sI hG.2.2.2) hdg kk
theorem n_putz {index ci k o a : Nat} {fs : List Nat} {x : Int32} (hC : gC p s m args meth c cc nL own D cy) (hin : meth.name = "<init>") (hG : gG D cy sh ad L A s.heap mem H locs) (hf : gPu own index ci k "Z") (ha : ad o = a) (ho : o ∈ L) (hs : sh o = (0, ci, fs)) (hk : fs[k]? = some 0) (hx : isB x) (hdg : decode cc pc = .ok (.putfield index, 3))
    (kk : ∀ (H1 : Heap) (locs1 : List Loc), gG D cy sh ad L A s.heap (gsI mem o k x) H1 locs1 → W p l e R s m args below meth c H1 locs1 cells slots Q (F0 m (pc + 3) ls rest)) : W p l e R s m args below meth c H locs cells slots Q (F0 m pc ls (.int x :: .ref a :: rest)) :=
  n_put hC hin hG hf ha ho hs (ty := .boolean) (by decide +kernel) (isB_n hx) (isB_f hx) hk (gsI mem o k x) (gFs_sI hk x) (fun _ hb => gCell_sI hb) (gZ_sI hG.2.2.1 ho) (gCl_sI hG.2.2.2) hdg kk
theorem n_putr {index ci k o a j b : Nat} {fs : List Nat} {d : String} (hC : gC p s m args meth c cc nL own D cy) (hin : meth.name = "<init>") (hG : gG D cy sh ad L A s.heap mem H locs) (hf : gPu own index ci k d) (ha : ad o = a) (hb : ad j = b) (hj : j ∈ L) (ho : o ∈ L) (hs : sh o = (0, ci, fs)) (hk : fs[k]? = some 1) {ty : FieldType} (hd : parseFieldDescriptor d = some ty) (hty : ∀ q, narrow ty (.ref q) = .ref q ∧ fits ty (.ref q) = true) (hdg : decode cc pc = .ok (.putfield index, 3))
    (kk : ∀ (H1 : Heap) (locs1 : List Loc), gG D cy sh ad L A s.heap (gsR mem o k (some j)) H1 locs1 → W p l e R s m args below meth c H1 locs1 cells slots Q (F0 m (pc + 3) ls rest)) : W p l e R s m args below meth c H locs cells slots Q (F0 m pc ls (.ref b :: .ref a :: rest)) := by
  subst hb
  exact n_put hC hin hG hf ha ho hs hd (hty _).1 (hty _).2 hk (gsR mem o k (some j)) (gFs_sR hk (some j)) (fun _ hb => gCell_sR hb) (gZ_sR hG.2.2.1 ho) (gCl_sR hG.2.2.2 (fun b hb => by cases hb; exact hj)) hdg kk
theorem n_iast {o n a : Nat} {fs : List Nat} {i x : Int32} (hC : gC p s m args meth c cc nL own D cy) (hG : gG D cy sh ad L A s.heap mem H locs) (ha : ad o = a) (ho : o ∈ L) (hs : sh o = (1, n, fs)) (hi : okI i n) (hdg : decode cc pc = .ok (.iastore, 1))
    (kk : ∀ (H1 : Heap) (locs1 : List Loc), gG D cy sh ad L A s.heap (gsI mem o (ix i) x) H1 locs1 → W p l e R s m args below meth c H1 locs1 cells slots Q (F0 m (pc + 1) ls rest)) : W p l e R s m args below meth c H locs cells slots Q (F0 m pc ls (.int x :: .int i :: .ref a :: rest)) := by
  subst ha
  exact r_iast (α := gMem) (K := some) (r := gsI mem o (ix i) x) hC hG.1 hG.2.1 ho hs (by rw [if_pos hi]; rfl) hdg (fun mem' H1 l1 e h => by
    cases e
    exact kk H1 l1 ⟨hG.1, h, gZ_sI hG.2.2.1 ho, gCl_sI hG.2.2.2⟩)
/-- a new array -/
theorem n_newa {j N t : Nat} {n : Int32} {atype : ArrayType} {ty : FieldType} {a0 : vp_A} (hC : gC p s m args meth c cc nL own D cy) (hG : gG D cy sh ad L A s.heap mem H locs) (hA : ∀ q, s.heap.size ≤ q → A q) (hj : j ∉ L) (hs : (sh j).2.2 = []) (k1 : Cond.arrayClass (newarray.typeOf atype) ∈ WS) (hty : newarray.typeOf atype = ty) (ht : (gTys cy)[t]? = some (cy t, ty)) (ha : ∀ cA : ClassId, vp_cell cA a0 = arrV cA N (fun _ => defaultValue ty)) (hg : (∀ k : Nat, gI mem j k = 0 ∧ gJ mem j k = 0 ∧ gR mem j k = none) → gCell cy ad mem j (sh j) = .inl (cy t, a0)) (hn : n = nI N) (hN : N < 1000) (hb : componentBytes ty ≤ 8) (hcells : cells + 1 ≤ R.cells) (hslots : slots + N ≤ R.slots) (hdg : decode cc pc = .ok (.newarray atype, 2))
    (kk : ∀ (ad' : Nat → Nat) (H1 : Heap) (b : Nat), (∀ o ∈ L, ad' o = ad o) → ad' j = b → gG D cy sh ad' (j :: L) A s.heap mem H1 locs → W p l e R s m args below meth c H1 locs (cells + 1) (slots + N) Q (F0 m (pc + 2) ls (.ref b :: rest))) : W p l e R s m args below meth c H locs cells slots Q (F0 m pc ls (.int n :: rest)) := by
  subst hn
  refine va_newa (N' := N) hC.x hC.b (hC.ts _ k1) hty hC.K hG.2.1.1 (gW_D hG.1.1 hG.1.2) hG.2.1.2 hA ha (nI_pos (by omega)) (ixN (by omega)) ?_ hcells hslots hdg (fun q cA H1 hK1 hP hD hS => ?_)
  · exact Nat.le_trans (Nat.mul_le_mul (show N ≤ 1000 by omega) hb) (Nat.le_of_ble_eq_true rfl)
  · have ec := cy_eq hC.K hK1 ht
    subst ec
    obtain ⟨ad', e1, e2, e3⟩ := a_ext hG hj (by rw [hs]; exact fun c h => by cases h) (hg (hG.2.2.1 j hj)) hP hD hS
    exact kk ad' H1 q e1 e2 e3
theorem n_newI {j N : Nat} {n : Int32} (hC : gC p s m args meth c cc nL own D cy) (hG : gG D cy sh ad L A s.heap mem H locs) (hA : ∀ q, s.heap.size ≤ q → A q) (hj : j ∉ L) (hs : sh j = (1, N, [])) (k1 : Cond.arrayClass .int ∈ WS) (hn : n = nI N) (hN : N < 1000) (hcells : cells + 1 ≤ R.cells) (hslots : slots + N ≤ R.slots) (hdg : decode cc pc = .ok (.newarray .int, 2))
    (kk : ∀ (ad' : Nat → Nat) (H1 : Heap) (b : Nat), (∀ o ∈ L, ad' o = ad o) → ad' j = b → gG D cy sh ad' (j :: L) A s.heap mem H1 locs → W p l e R s m args below meth c H1 locs (cells + 1) (slots + N) Q (F0 m (pc + 2) ls (.ref b :: rest))) : W p l e R s m args below meth c H locs cells slots Q (F0 m pc ls (.int n :: rest)) :=
  n_newa (t := 0) (ty := .int) (atype := .int) (a0 := (N, .inl (fun _ => 0))) hC hG hA hj (by rw [hs]) k1 rfl rfl (fun _ => rfl) (fun hz => by
    rw [hs]
    show Sum.inl (cy 0, N, Sum.inl (gI mem j)) = _
    rw [show gI mem j = fun _ => 0 from funext fun k => (hz k).1]) hn hN (by decide) hcells hslots hdg kk
theorem n_newB {j N : Nat} {n : Int32} (hC : gC p s m args meth c cc nL own D cy) (hG : gG D cy sh ad L A s.heap mem H locs) (hA : ∀ q, s.heap.size ≤ q → A q) (hj : j ∉ L) (hs : sh j = (2, N, [])) (k1 : Cond.arrayClass .byte ∈ WS) (hn : n = nI N) (hN : N < 1000) (hcells : cells + 1 ≤ R.cells) (hslots : slots + N ≤ R.slots) (hdg : decode cc pc = .ok (.newarray .byte, 2))
    (kk : ∀ (ad' : Nat → Nat) (H1 : Heap) (b : Nat), (∀ o ∈ L, ad' o = ad o) → ad' j = b → gG D cy sh ad' (j :: L) A s.heap mem H1 locs → W p l e R s m args below meth c H1 locs (cells + 1) (slots + N) Q (F0 m (pc + 2) ls (.ref b :: rest))) : W p l e R s m args below meth c H locs cells slots Q (F0 m pc ls (.int n :: rest)) :=
  n_newa (t := 1) (ty := .byte) (atype := .byte) (a0 := (N, .inl (fun _ => 0))) hC hG hA hj (by rw [hs]) k1 rfl rfl (fun _ => rfl) (fun hz => by
    rw [hs]
    show Sum.inl (cy 1, N, Sum.inl (gI mem j)) = _
    rw [show gI mem j = fun _ => 0 from funext fun k => (hz k).1]) hn hN (by decide) hcells hslots hdg kk
theorem n_newZ {j N : Nat} {n : Int32} (hC : gC p s m args meth c cc nL own D cy) (hG : gG D cy sh ad L A s.heap mem H locs) (hA : ∀ q, s.heap.size ≤ q → A q) (hj : j ∉ L) (hs : sh j = (3, N, [])) (k1 : Cond.arrayClass .boolean ∈ WS) (hn : n = nI N) (hN : N < 1000) (hcells : cells + 1 ≤ R.cells) (hslots : slots + N ≤ R.slots) (hdg : decode cc pc = .ok (.newarray .boolean, 2))
    (kk : ∀ (ad' : Nat → Nat) (H1 : Heap) (b : Nat), (∀ o ∈ L, ad' o = ad o) → ad' j = b → gG D cy sh ad' (j :: L) A s.heap mem H1 locs → W p l e R s m args below meth c H1 locs (cells + 1) (slots + N) Q (F0 m (pc + 2) ls (.ref b :: rest))) : W p l e R s m args below meth c H locs cells slots Q (F0 m pc ls (.int n :: rest)) :=
  n_newa (t := 2) (ty := .boolean) (atype := .boolean) (a0 := (N, .inl (fun _ => 0))) hC hG hA hj (by rw [hs]) k1 rfl rfl (fun _ => rfl) (fun hz => by
    rw [hs]
    show Sum.inl (cy 2, N, Sum.inl (gI mem j)) = _
    rw [show gI mem j = fun _ => 0 from funext fun k => (hz k).1]) hn hN (by decide) hcells hslots hdg kk
theorem n_newJ {j N : Nat} {n : Int32} (hC : gC p s m args meth c cc nL own D cy) (hG : gG D cy sh ad L A s.heap mem H locs) (hA : ∀ q, s.heap.size ≤ q → A q) (hj : j ∉ L) (hs : sh j = (4, N, [])) (k1 : Cond.arrayClass .long ∈ WS) (hn : n = nI N) (hN : N < 1000) (hcells : cells + 1 ≤ R.cells) (hslots : slots + N ≤ R.slots) (hdg : decode cc pc = .ok (.newarray .long, 2))
    (kk : ∀ (ad' : Nat → Nat) (H1 : Heap) (b : Nat), (∀ o ∈ L, ad' o = ad o) → ad' j = b → gG D cy sh ad' (j :: L) A s.heap mem H1 locs → W p l e R s m args below meth c H1 locs (cells + 1) (slots + N) Q (F0 m (pc + 2) ls (.ref b :: rest))) : W p l e R s m args below meth c H locs cells slots Q (F0 m pc ls (.int n :: rest)) :=
  n_newa (t := 3) (ty := .long) (atype := .long) (a0 := (N, .inr (.inl (fun _ => 0)))) hC hG hA hj (by rw [hs]) k1 rfl rfl (fun _ => rfl) (fun hz => by
    rw [hs]
    show Sum.inl (cy 3, N, Sum.inr (Sum.inl (gJ mem j))) = _
    rw [show gJ mem j = fun _ => 0 from funext fun k => (hz k).2.1]) hn hN (by decide) hcells hslots hdg kk
end NR
