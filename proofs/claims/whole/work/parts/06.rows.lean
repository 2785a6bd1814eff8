/-! rows over the generic memory -/
def gC (p : Program) (s : State) (m : MethodId) (args : Array Value) (meth : Method) (c : Code) (cc : ByteArray) (nL : Nat) (own : String) (D : va_G) (cy : Nat → ClassId) : Prop :=
  p.tables.exec = Jvm.exec ∧ c.code = cc ∧ c.maxLocals = nL ∧ s.vm.findClass own = some m.cls ∧ (∀ w ∈ WS, w.before args s = true) ∧ va_K D vwCl (gTys cy) s ∧ meth.locks = false
def gH (D : va_G) (cy : Nat → ClassId) (sh : Nat → gShp) (ad : Nat → Nat) (L : List Nat) (A : Nat → Prop) (H0 : Heap) (mem : gMem) (H : Heap) (locs : List Loc) : Prop := va_P D vwCl (gW cy sh ad L mem) H ∧ va_S A H0 H locs
/-- a method may change these cells: all of its world's addresses among them -/
def gF (ad : Nat → Nat) (L : List Nat) (A : Nat → Prop) : Prop := gOk ad L ∧ ∀ o ∈ L, A (ad o)
def gX (A : Nat → Prop) (s : State) (E : State → Prop) : Prop := ∀ (H : Heap) (locs : List Loc), va_S A s.heap H locs → ∀ U : State, U.heap = H → s.WarmedH U.vm → E U
def gQ (ov : Option Value) (A : Nat → Prop) (P1 : State → Prop) : Array Value → State → Outcome → State → Prop := fun _ st o t => o = .returned ov ∧ P1 t ∧ va_F A st t
abbrev gRm (fr lo : Nat) : Room := { frames := fr, cells := 0, slots := 0, locals := lo }
abbrev gPc (E : State → Prop) (D : va_G) (cy : Nat → ClassId) (sh : Nat → gShp) (ad : Nat → Nat) (L : List Nat) (mem : gMem) : State → Prop := fun U => va_P D vwCl (gW cy sh ad L mem) U.heap ∧ va_K D vwCl (gTys cy) U ∧ E U
abbrev gP1 (D : va_G) (cy : Nat → ClassId) (sh : Nat → gShp) (ad : Nat → Nat) (L : List Nat) (mem : gMem) : State → Prop := fun t => va_P D vwCl (gW cy sh ad L mem) t.heap
def gMet (l : Launch) (y : MethodName) (cc : ByteArray) (nL : Nat) (ret : Option FieldType) (fr lo : Nat) (E : State → Prop) (D : va_G) (cy : Nat → ClassId) (sh : Nat → gShp) (ad : Nat → Nat) (L : List Nat) (av : List Value) (mem mem' : gMem) (ov : Option Value) : Prop :=
  Met l y (Cond.code y cc nL ret :: WS) (gRm fr lo) (va_Pc av (gPc E D cy sh ad L mem)) (gQ ov (gA ad L) (gP1 D cy sh ad L mem')) 0 0 (gA ad L)
def gFl (own : String) (index ci k : Nat) : Prop := ∃ (C : String) (T : u_T) (N : Nat) (ref : String), vwCl[ci]? = some (C, T, N) ∧ (∀ w ∈ u_ws C T N, w ∈ WS) ∧ k < N ∧ Cond.fieldLink own index ref (T k).2.1 (T k).2.2.1 ∈ WS ∧ (ref = (T k).1 ∨ Cond.sameField ref (T k).1 (T k).2.1 (T k).2.2.1 ∈ WS)
def gPl (own : String) (index ci k : Nat) (d : String) : Prop := ∃ (C : String) (T : u_T) (N : Nat) (ty : Nat → FieldType) (ref : String), vwCl[ci]? = some (C, T, N) ∧ (∀ w ∈ u_ws C T N, w ∈ WS) ∧ (∀ j, j < N → parseFieldDescriptor (T j).2.2.1 = some (ty j)) ∧ (∀ a, a < N → ∀ b, b < N → a ≠ b → (T a).2.1 ≠ (T b).2.1) ∧ k < N ∧ Cond.fieldLink own index ref (T k).2.1 (T k).2.2.1 ∈ WS ∧ (ref = (T k).1 ∨ Cond.sameField ref (T k).1 (T k).2.1 (T k).2.2.1 ∈ WS) ∧ (T k).2.2.2 = false ∧ (T k).2.2.1 = d
theorem okI_in {i : Int32} {n : Nat} (h : okI i n) : vp_in i n := vp_in_iff.mpr h
theorem ifp {c : Prop} [Decidable c] {α : Type} {A B r : α} (hc : c) (h : (if c then A else B) = r) : A = r := by rw [if_pos hc] at h; exact h
theorem ifn {c : Prop} [Decidable c] {α : Type} {A B r : α} (hc : ¬ c) (h : (if c then A else B) = r) : B = r := by rw [if_neg hc] at h; exact h
theorem chk {c : Prop} [Decidable c] {α : Type} {A : Option α} {r : α} (h : (if c then A else none) = some r) : c ∧ A = some r := by
  by_cases hc : c
  · exact ⟨hc, ifp hc h⟩
  · rw [if_neg hc] at h; cases h
theorem gS_in {A : Nat → Prop} {s : State} {E : State → Prop} (h : ∀ U : State, s.WarmedH U.vm → E U) : gX A s E := fun _ _ _ U _ hW => h U hW
section GR
variable {p : Program} {l : Launch} {e : Env} {R : Room} {s : State} {m : MethodId} {args : Array Value} {below : List Frame} {meth : Method} {c : Code} {H : Heap} {locs : List Loc} {cells slots : Nat} {Q : State → Prop}
variable {cc : ByteArray} {nL : Nat} {own : String} {pc : Nat} {ls : Array Slot} {rest : List Value} {D : va_G} {cy : Nat → ClassId} {sh : Nat → gShp} {ad : Nat → Nat} {L : List Nat} {A : Nat → Prop} {H0 : Heap} {mem : gMem}
theorem gC.x (h : gC p s m args meth c cc nL own D cy) : p.tables.exec = Jvm.exec := h.1
theorem gC.b (h : gC p s m args meth c cc nL own D cy) : c.code = cc := h.2.1
theorem gC.ml (h : gC p s m args meth c cc nL own D cy) : c.maxLocals = nL := h.2.2.1
theorem gC.ow (h : gC p s m args meth c cc nL own D cy) : s.vm.findClass own = some m.cls := h.2.2.2.1
theorem gC.ts (h : gC p s m args meth c cc nL own D cy) : ∀ w ∈ WS, w.before args s = true := h.2.2.2.2.1
theorem gC.K (h : gC p s m args meth c cc nL own D cy) : va_K D vwCl (gTys cy) s := h.2.2.2.2.2.1
theorem gC.lk (h : gC p s m args meth c cc nL own D cy) : meth.locks = false := h.2.2.2.2.2.2
theorem gH.P (h : gH D cy sh ad L A H0 mem H locs) : va_P D vwCl (gW cy sh ad L mem) H := h.1
theorem gH.S (h : gH D cy sh ad L A H0 mem H locs) : va_S A H0 H locs := h.2
theorem r_get {index ci k o : Nat} {fs : List Nat} (hC : gC p s m args meth c cc nL own D cy) (hH : gH D cy sh ad L A H0 mem H locs) (hf : gFl own index ci k) (ho : o ∈ L) (hs : sh o = (0, ci, fs)) {z : Nat} (hk : fs[k]? = some z) (hdg : decode cc pc = .ok (.getfield index, 3))
    (kk : W p l e R s m args below meth c H locs cells slots Q (F0 m (pc + 3) ls (gVal ad mem o k z :: rest))) : W p l e R s m args below meth c H locs cells slots Q (F0 m pc ls (.ref (ad o) :: rest)) := by
  obtain ⟨C, T, N, ref, h1, h2, h3, h4, h5⟩ := hf
  obtain ⟨q, hq, hw⟩ := gW_at (cy := cy) (sh := sh) (ad := ad) (m := mem) ho
  have hw2 : (gW cy sh ad L mem)[q]? = some (ad o, .inr (ci, gFs ad mem o fs)) := by rw [hw, hs]; rfl
  refine va_get (ref := ref) hC.x hC.b hC.ts h2 hC.ow hC.K hH.P q hw2 h1 k h3 (hC.ts _ h4) ?_ (gFs_at hk) hdg kk
  rcases h5 with h5 | h5
  · subst h5; exact fun _ h => h
  · exact fun x h => u_same (hC.ts _ h5) x h
theorem r_geti {index ci k o : Nat} {fs : List Nat} (hC : gC p s m args meth c cc nL own D cy) (hH : gH D cy sh ad L A H0 mem H locs) (hf : gFl own index ci k) (ho : o ∈ L) (hs : sh o = (0, ci, fs)) (hk : fs[k]? = some 0) (hdg : decode cc pc = .ok (.getfield index, 3))
    (kk : W p l e R s m args below meth c H locs cells slots Q (F0 m (pc + 3) ls (.int (gI mem o k) :: rest))) : W p l e R s m args below meth c H locs cells slots Q (F0 m pc ls (.ref (ad o) :: rest)) := r_get hC hH hf ho hs hk hdg kk
theorem r_getr {index ci k o : Nat} {fs : List Nat} (hC : gC p s m args meth c cc nL own D cy) (hH : gH D cy sh ad L A H0 mem H locs) (hf : gFl own index ci k) (ho : o ∈ L) (hs : sh o = (0, ci, fs)) (hk : fs[k]? = some 1) (hdg : decode cc pc = .ok (.getfield index, 3))
    (kk : W p l e R s m args below meth c H locs cells slots Q (F0 m (pc + 3) ls (va_rf ((gR mem o k).map ad) :: rest))) : W p l e R s m args below meth c H locs cells slots Q (F0 m pc ls (.ref (ad o) :: rest)) := r_get hC hH hf ho hs hk hdg kk
/-- a reference that was looked at before -/
theorem r_getrS {index ci k o v : Nat} {fs : List Nat} (hC : gC p s m args meth c cc nL own D cy) (hH : gH D cy sh ad L A H0 mem H locs) (hf : gFl own index ci k) (ho : o ∈ L) (hs : sh o = (0, ci, fs)) (hk : fs[k]? = some 1) (he : gR mem o k = some v) (hdg : decode cc pc = .ok (.getfield index, 3))
    (kk : W p l e R s m args below meth c H locs cells slots Q (F0 m (pc + 3) ls (.ref (ad v) :: rest))) : W p l e R s m args below meth c H locs cells slots Q (F0 m pc ls (.ref (ad o) :: rest)) := by
  refine r_get hC hH hf ho hs hk hdg ?_
  show W p l e R s m args below meth c H locs cells slots Q (F0 m (pc + 3) ls (va_rf ((gR mem o k).map ad) :: rest))
  rw [he]
  exact kk
theorem r_getc {index ci k o z : Nat} {fs : List Nat} (hC : gC p s m args meth c cc nL own D cy) (hH : gH D cy sh ad L A H0 mem H locs) (hf : gFl own index ci k) (ho : o ∈ L) (hs : sh o = (0, ci, fs)) (hk : fs[k]? = some (z + 2)) (hdg : decode cc pc = .ok (.getfield index, 3))
    (kk : W p l e R s m args below meth c H locs cells slots Q (F0 m (pc + 3) ls (.ref (ad z) :: rest))) : W p l e R s m args below meth c H locs cells slots Q (F0 m pc ls (.ref (ad o) :: rest)) := r_get hC hH hf ho hs hk hdg kk
theorem r_put {index ci k o : Nat} {fs : List Nat} {d : String} (hC : gC p s m args meth c cc nL own D cy) (hF : gF ad L A) (hH : gH D cy sh ad L A H0 mem H locs) (hf : gPl own index ci k d) (ho : o ∈ L) (hs : sh o = (0, ci, fs)) {ty : FieldType} {v : Value} (hd : parseFieldDescriptor d = some ty) (hn : narrow ty v = v) (hfit : fits ty v = true) {z : Nat} (hk : fs[k]? = some z) (mem' : gMem) (hset : (gFs ad mem o fs).set k v = gFs ad mem' o fs) (hoth : ∀ b : Nat, b ≠ o → gCell cy ad mem' b (sh b) = gCell cy ad mem b (sh b)) (hdg : decode cc pc = .ok (.putfield index, 3))
    (kk : ∀ (H1 : Heap) (locs1 : List Loc), gH D cy sh ad L A H0 mem' H1 locs1 → W p l e R s m args below meth c H1 locs1 cells slots Q (F0 m (pc + 3) ls rest)) : W p l e R s m args below meth c H locs cells slots Q (F0 m pc ls (v :: .ref (ad o) :: rest)) := by
  obtain ⟨C, T, N, ty0, ref, h1, h2, hty, hnm, h3, h4, h5, h6, h7⟩ := hf
  obtain ⟨q, hq, hw⟩ := gW_at (cy := cy) (sh := sh) (ad := ad) (m := mem) ho
  have hw2 : (gW cy sh ad L mem)[q]? = some (ad o, .inr (ci, gFs ad mem o fs)) := by rw [hw, hs]; rfl
  have hkl : k < (gFs ad mem o fs).length := by rw [gFs_len]; exact (List.getElem?_eq_some_iff.mp hk).1
  refine va_put (ref := ref) hC.x hC.b hC.ts h2 ty0 hty hnm hC.ow hC.K hH.P (gW_D hF.1 hF.2) hH.S q hw2 h1 k h3 (hC.ts _ h4) ?_ h6 (by rw [h7]; exact hd) hn hfit hkl hdg ?_
  · rcases h5 with h5 | h5
    · subst h5; exact fun _ h => h
    · exact fun x h => u_same (hC.ts _ h5) x h
  · intro H1 locs1 hP1 hD1 hS1
    refine kk H1 locs1 ⟨?_, hS1⟩
    have e1 : (gW cy sh ad L mem).set q (ad o, .inr (ci, (gFs ad mem o fs).set k v)) = gW cy sh ad L mem' := gW_set hF.1.1 hq (by rw [hs, hset]; rfl) hoth
    rw [e1] at hP1
    exact hP1
theorem r_puti {index ci k o : Nat} {fs : List Nat} {x : Int32} {α : Type} {K : gMem → Option α} {r : α} (hC : gC p s m args meth c cc nL own D cy) (hF : gF ad L A) (hH : gH D cy sh ad L A H0 mem H locs) (hf : gPl own index ci k "I") (ho : o ∈ L) (hs : sh o = (0, ci, fs)) (hk : fs[k]? = some 0) (h : lt1 (gsI mem o k x) K = some r) (hdg : decode cc pc = .ok (.putfield index, 3))
    (kk : ∀ (mem' : gMem) (H1 : Heap) (locs1 : List Loc), K mem' = some r → gH D cy sh ad L A H0 mem' H1 locs1 → W p l e R s m args below meth c H1 locs1 cells slots Q (F0 m (pc + 3) ls rest)) : W p l e R s m args below meth c H locs cells slots Q (F0 m pc ls (.int x :: .ref (ad o) :: rest)) :=
  r_put hC hF hH hf ho hs (ty := .int) (by decide +kernel) rfl rfl hk (gsI mem o k x) (gFs_sI hk x) (fun _ hb => gCell_sI hb) hdg (fun H1 l1 h1 => kk _ H1 l1 h h1)
theorem isB_n {x : Int32} (h : isB x) : narrow .boolean (.int x) = .int x := by rcases h with rfl | rfl <;> rfl
theorem isB_f {x : Int32} (h : isB x) : fits .boolean (.int x) = true := by rcases h with rfl | rfl <;> rfl
theorem r_putz {index ci k o : Nat} {fs : List Nat} {x : Int32} {α : Type} {K : gMem → Option α} {r : α} (hC : gC p s m args meth c cc nL own D cy) (hF : gF ad L A) (hH : gH D cy sh ad L A H0 mem H locs) (hf : gPl own index ci k "Z") (ho : o ∈ L) (hs : sh o = (0, ci, fs)) (hk : fs[k]? = some 0) (h : (if isB x then lt1 (gsI mem o k x) K else none) = some r) (hdg : decode cc pc = .ok (.putfield index, 3))
    (kk : ∀ (mem' : gMem) (H1 : Heap) (locs1 : List Loc), K mem' = some r → gH D cy sh ad L A H0 mem' H1 locs1 → W p l e R s m args below meth c H1 locs1 cells slots Q (F0 m (pc + 3) ls rest)) : W p l e R s m args below meth c H locs cells slots Q (F0 m pc ls (.int x :: .ref (ad o) :: rest)) :=
  r_put hC hF hH hf ho hs (ty := .boolean) (by decide +kernel) (isB_n (chk h).1) (isB_f (chk h).1) hk (gsI mem o k x) (gFs_sI hk x) (fun _ hb => gCell_sI hb) hdg (fun H1 l1 h1 => kk _ H1 l1 (chk h).2 h1)
theorem r_putr {index ci k o : Nat} {fs : List Nat} {d : String} {x : Option Nat} {v : Value} {α : Type} {K : gMem → Option α} {r : α} (hC : gC p s m args meth c cc nL own D cy) (hF : gF ad L A) (hH : gH D cy sh ad L A H0 mem H locs) (hf : gPl own index ci k d) (ho : o ∈ L) (hs : sh o = (0, ci, fs)) (hk : fs[k]? = some 1) {nm : String} (hd : parseFieldDescriptor d = some (.object nm)) (hv : v = va_rf (x.map ad)) (h : lt1 (gsR mem o k x) K = some r) (hdg : decode cc pc = .ok (.putfield index, 3))
    (kk : ∀ (mem' : gMem) (H1 : Heap) (locs1 : List Loc), K mem' = some r → gH D cy sh ad L A H0 mem' H1 locs1 → W p l e R s m args below meth c H1 locs1 cells slots Q (F0 m (pc + 3) ls rest)) : W p l e R s m args below meth c H locs cells slots Q (F0 m pc ls (v :: .ref (ad o) :: rest)) := by
  subst hv
  refine r_put hC hF hH hf ho hs (ty := .object nm) hd ?_ ?_ hk (gsR mem o k x) (gFs_sR hk x) (fun _ hb => gCell_sR hb) hdg (fun H1 l1 h1 => kk _ H1 l1 h h1)
  · cases x <;> rfl
  · cases x <;> rfl
theorem r_iald {o n : Nat} {fs : List Nat} {i : Int32} {α : Type} {X : Option α} {r : α} (hC : gC p s m args meth c cc nL own D cy) (hH : gH D cy sh ad L A H0 mem H locs) (ho : o ∈ L) (hs : sh o = (1, n, fs)) (h : (if okI i n then X else none) = some r) (hdg : decode cc pc = .ok (.iaload, 1))
    (kk : X = some r → W p l e R s m args below meth c H locs cells slots Q (F0 m (pc + 1) ls (.int (gI mem o (ix i)) :: rest))) : W p l e R s m args below meth c H locs cells slots Q (F0 m pc ls (.int i :: .ref (ad o) :: rest)) := by
  obtain ⟨q, hq, hw⟩ := gW_at (cy := cy) (sh := sh) (ad := ad) (m := mem) ho
  have hw2 : (gW cy sh ad L mem)[q]? = some (ad o, .inl (cy 0, n, .inl (gI mem o))) := by rw [hw, hs]; rfl
  exact va_iald hC.x hC.b hC.K hH.P q 0 hw2 rfl (okI_in (chk h).1) hdg (kk (chk h).2)
theorem r_bald {o n : Nat} {fs : List Nat} {i : Int32} {α : Type} {X : Option α} {r : α} (hC : gC p s m args meth c cc nL own D cy) (hH : gH D cy sh ad L A H0 mem H locs) (ho : o ∈ L) (hs : sh o = (2, n, fs)) (h : (if okI i n then X else none) = some r) (hdg : decode cc pc = .ok (.baload, 1))
    (kk : X = some r → W p l e R s m args below meth c H locs cells slots Q (F0 m (pc + 1) ls (.int (gI mem o (ix i)) :: rest))) : W p l e R s m args below meth c H locs cells slots Q (F0 m pc ls (.int i :: .ref (ad o) :: rest)) := by
  obtain ⟨q, hq, hw⟩ := gW_at (cy := cy) (sh := sh) (ad := ad) (m := mem) ho
  have hw2 : (gW cy sh ad L mem)[q]? = some (ad o, .inl (cy 1, n, .inl (gI mem o))) := by rw [hw, hs]; rfl
  exact va_bald hC.x hC.b hC.K hH.P q 1 hw2 rfl (okI_in (chk h).1) hdg (kk (chk h).2)
theorem r_zald {o n : Nat} {fs : List Nat} {i : Int32} {α : Type} {X : Option α} {r : α} (hC : gC p s m args meth c cc nL own D cy) (hH : gH D cy sh ad L A H0 mem H locs) (ho : o ∈ L) (hs : sh o = (3, n, fs)) (h : (if okI i n then X else none) = some r) (hdg : decode cc pc = .ok (.baload, 1))
    (kk : X = some r → W p l e R s m args below meth c H locs cells slots Q (F0 m (pc + 1) ls (.int (gI mem o (ix i)) :: rest))) : W p l e R s m args below meth c H locs cells slots Q (F0 m pc ls (.int i :: .ref (ad o) :: rest)) := by
  obtain ⟨q, hq, hw⟩ := gW_at (cy := cy) (sh := sh) (ad := ad) (m := mem) ho
  have hw2 : (gW cy sh ad L mem)[q]? = some (ad o, .inl (cy 2, n, .inl (gI mem o))) := by rw [hw, hs]; rfl
  exact va_zald hC.x hC.b hC.K hH.P q 2 hw2 rfl (okI_in (chk h).1) hdg (kk (chk h).2)
theorem r_lald {o n : Nat} {fs : List Nat} {i : Int32} {α : Type} {X : Option α} {r : α} (hC : gC p s m args meth c cc nL own D cy) (hH : gH D cy sh ad L A H0 mem H locs) (ho : o ∈ L) (hs : sh o = (4, n, fs)) (h : (if okI i n then X else none) = some r) (hdg : decode cc pc = .ok (.laload, 1))
    (kk : X = some r → W p l e R s m args below meth c H locs cells slots Q (F0 m (pc + 1) ls (.long (gJ mem o (ix i)) :: rest))) : W p l e R s m args below meth c H locs cells slots Q (F0 m pc ls (.int i :: .ref (ad o) :: rest)) := by
  obtain ⟨q, hq, hw⟩ := gW_at (cy := cy) (sh := sh) (ad := ad) (m := mem) ho
  have hw2 : (gW cy sh ad L mem)[q]? = some (ad o, .inl (cy 3, n, .inr (.inl (gJ mem o)))) := by rw [hw, hs]; rfl
  exact va_lald hC.x hC.b hC.K hH.P q 3 hw2 rfl (okI_in (chk h).1) hdg (kk (chk h).2)
theorem r_aald {o n t : Nat} {fs : List Nat} {i : Int32} {α : Type} {X : Option α} {r : α} (hC : gC p s m args meth c cc nL own D cy) (hH : gH D cy sh ad L A H0 mem H locs) (ho : o ∈ L) (hs : sh o = (t + 5, n, fs)) {ty : FieldType} (ht : (gTys cy)[t + 4]? = some (cy (t + 4), ty)) (hty : ty.isReference = true) (h : (if okI i n then X else none) = some r) (hdg : decode cc pc = .ok (.aaload, 1))
    (kk : X = some r → W p l e R s m args below meth c H locs cells slots Q (F0 m (pc + 1) ls (va_rf ((gR mem o (ix i)).map ad) :: rest))) : W p l e R s m args below meth c H locs cells slots Q (F0 m pc ls (.int i :: .ref (ad o) :: rest)) := by
  obtain ⟨q, hq, hw⟩ := gW_at (cy := cy) (sh := sh) (ad := ad) (m := mem) ho
  have hw2 : (gW cy sh ad L mem)[q]? = some (ad o, .inl (cy (t + 4), n, .inr (.inr (.inr (.inr (fun k => (gR mem o k).map ad)))))) := by rw [hw, hs]; rfl
  have hin := okI_in (chk h).1
  have hlt : i.toNatClampNeg < n := Nat.not_le.mp fun q => hin (Or.inr q)
  exact W.aald (v := va_rf ((gR mem o (ix i)).map ad)) hC.x hC.b (hH.P q _ hw2) ((hC.K.2 (t + 4) _ ht).1 n (fun j => va_rf ((gR mem o j).map ad))) hty (fun q => by cases q) (by show ¬ (i < 0 ∨ (arrV _ _ _).slots.size ≤ _); rw [arrV_size]; exact hin) (by show (arrV _ _ _).slots[_]? = _; rw [arrV_read _ _ hlt]) rfl rfl hdg (kk (chk h).2)
theorem r_alen {o n t : Nat} {fs : List Nat} {v : Int32} (hC : gC p s m args meth c cc nL own D cy) (hH : gH D cy sh ad L A H0 mem H locs) (ho : o ∈ L) (hs : sh o = (1, n, fs)) (hv : Int32.ofNat n = v) (hdg : decode cc pc = .ok (.arraylength, 1))
    (kk : W p l e R s m args below meth c H locs cells slots Q (F0 m (pc + 1) ls (.int v :: rest))) : W p l e R s m args below meth c H locs cells slots Q (F0 m pc ls (.ref (ad o) :: rest)) := by
  obtain ⟨q, hq, hw⟩ := gW_at (cy := cy) (sh := sh) (ad := ad) (m := mem) ho
  have hw2 : (gW cy sh ad L mem)[q]? = some (ad o, .inl (cy 0, n, .inl (gI mem o))) := by rw [hw, hs]; rfl
  exact va_alen hC.x hC.b hC.K hH.P q 0 hw2 rfl hv hdg kk
theorem upd_gI {o k : Nat} {x : Int32} : upd (gI mem o) k x = gI (gsI mem o k x) o := by
  funext j
  simp [upd, gI_sI]
theorem r_iast {o n : Nat} {fs : List Nat} {i x : Int32} {α : Type} {K : gMem → Option α} {r : α} (hC : gC p s m args meth c cc nL own D cy) (hF : gF ad L A) (hH : gH D cy sh ad L A H0 mem H locs) (ho : o ∈ L) (hs : sh o = (1, n, fs)) (h : (if okI i n then lt1 (gsI mem o (ix i) x) K else none) = some r) (hdg : decode cc pc = .ok (.iastore, 1))
    (kk : ∀ (mem' : gMem) (H1 : Heap) (locs1 : List Loc), K mem' = some r → gH D cy sh ad L A H0 mem' H1 locs1 → W p l e R s m args below meth c H1 locs1 cells slots Q (F0 m (pc + 1) ls rest)) : W p l e R s m args below meth c H locs cells slots Q (F0 m pc ls (.int x :: .int i :: .ref (ad o) :: rest)) := by
  obtain ⟨q, hq, hw⟩ := gW_at (cy := cy) (sh := sh) (ad := ad) (m := mem) ho
  have hw2 : (gW cy sh ad L mem)[q]? = some (ad o, .inl (cy 0, n, .inl (gI mem o))) := by rw [hw, hs]; rfl
  refine va_iast hC.x hC.b hC.K hH.P (gW_D hF.1 hF.2) hH.S q 0 hw2 rfl (okI_in (chk h).1) hdg (fun H1 l1 hP hD hS => kk (gsI mem o (ix i) x) H1 l1 (chk h).2 ⟨?_, hS⟩)
  rw [upd_gI, gW_set (m' := gsI mem o (ix i) x) hF.1.1 hq (by rw [hs]; rfl) (fun _ hb => gCell_sI hb)] at hP
  exact hP
theorem r_bast {o n : Nat} {fs : List Nat} {i x : Int32} {α : Type} {K : gMem → Option α} {r : α} (hC : gC p s m args meth c cc nL own D cy) (hF : gF ad L A) (hH : gH D cy sh ad L A H0 mem H locs) (ho : o ∈ L) (hs : sh o = (2, n, fs)) (h : (if okI i n then lt1 (gsI mem o (ix i) (vp_nar .byte x)) K else none) = some r) (hdg : decode cc pc = .ok (.bastore, 1))
    (kk : ∀ (mem' : gMem) (H1 : Heap) (locs1 : List Loc), K mem' = some r → gH D cy sh ad L A H0 mem' H1 locs1 → W p l e R s m args below meth c H1 locs1 cells slots Q (F0 m (pc + 1) ls rest)) : W p l e R s m args below meth c H locs cells slots Q (F0 m pc ls (.int x :: .int i :: .ref (ad o) :: rest)) := by
  obtain ⟨q, hq, hw⟩ := gW_at (cy := cy) (sh := sh) (ad := ad) (m := mem) ho
  have hw2 : (gW cy sh ad L mem)[q]? = some (ad o, .inl (cy 1, n, .inl (gI mem o))) := by rw [hw, hs]; rfl
  refine va_bast hC.x hC.b hC.K hH.P (gW_D hF.1 hF.2) hH.S q 1 hw2 rfl (okI_in (chk h).1) hdg (fun H1 l1 hP hD hS => kk (gsI mem o (ix i) (vp_nar .byte x)) H1 l1 (chk h).2 ⟨?_, hS⟩)
  rw [upd_gI, gW_set (m' := gsI mem o (ix i) (vp_nar .byte x)) hF.1.1 hq (by rw [hs]; rfl) (fun _ hb => gCell_sI hb)] at hP
  exact hP
theorem r_zast {o n : Nat} {fs : List Nat} {i x : Int32} {α : Type} {K : gMem → Option α} {r : α} (hC : gC p s m args meth c cc nL own D cy) (hF : gF ad L A) (hH : gH D cy sh ad L A H0 mem H locs) (ho : o ∈ L) (hs : sh o = (3, n, fs)) (h : (if okI i n then lt1 (gsI mem o (ix i) (vp_nar .boolean x)) K else none) = some r) (hdg : decode cc pc = .ok (.bastore, 1))
    (kk : ∀ (mem' : gMem) (H1 : Heap) (locs1 : List Loc), K mem' = some r → gH D cy sh ad L A H0 mem' H1 locs1 → W p l e R s m args below meth c H1 locs1 cells slots Q (F0 m (pc + 1) ls rest)) : W p l e R s m args below meth c H locs cells slots Q (F0 m pc ls (.int x :: .int i :: .ref (ad o) :: rest)) := by
  obtain ⟨q, hq, hw⟩ := gW_at (cy := cy) (sh := sh) (ad := ad) (m := mem) ho
  have hw2 : (gW cy sh ad L mem)[q]? = some (ad o, .inl (cy 2, n, .inl (gI mem o))) := by rw [hw, hs]; rfl
  refine va_zast hC.x hC.b hC.K hH.P (gW_D hF.1 hF.2) hH.S q 2 hw2 rfl (okI_in (chk h).1) hdg (fun H1 l1 hP hD hS => kk (gsI mem o (ix i) (vp_nar .boolean x)) H1 l1 (chk h).2 ⟨?_, hS⟩)
  rw [upd_gI, gW_set (m' := gsI mem o (ix i) (vp_nar .boolean x)) hF.1.1 hq (by rw [hs]; rfl) (fun _ hb => gCell_sI hb)] at hP
  exact hP
theorem upd_gJ {o k : Nat} {x : Int64} : vp_updL (gJ mem o) k x = gJ (gsJ mem o k x) o := by
  funext j
  simp [vp_updL, gJ_sJ]
theorem r_last {o n : Nat} {fs : List Nat} {i : Int32} {x : Int64} {α : Type} {K : gMem → Option α} {r : α} (hC : gC p s m args meth c cc nL own D cy) (hF : gF ad L A) (hH : gH D cy sh ad L A H0 mem H locs) (ho : o ∈ L) (hs : sh o = (4, n, fs)) (h : (if okI i n then lt1 (gsJ mem o (ix i) x) K else none) = some r) (hdg : decode cc pc = .ok (.lastore, 1))
    (kk : ∀ (mem' : gMem) (H1 : Heap) (locs1 : List Loc), K mem' = some r → gH D cy sh ad L A H0 mem' H1 locs1 → W p l e R s m args below meth c H1 locs1 cells slots Q (F0 m (pc + 1) ls rest)) : W p l e R s m args below meth c H locs cells slots Q (F0 m pc ls (.long x :: .int i :: .ref (ad o) :: rest)) := by
  obtain ⟨q, hq, hw⟩ := gW_at (cy := cy) (sh := sh) (ad := ad) (m := mem) ho
  have hw2 : (gW cy sh ad L mem)[q]? = some (ad o, .inl (cy 3, n, .inr (.inl (gJ mem o)))) := by rw [hw, hs]; rfl
  refine va_last hC.x hC.b hC.K hH.P (gW_D hF.1 hF.2) hH.S q 3 hw2 rfl (okI_in (chk h).1) hdg (fun H1 l1 hP hD hS => kk (gsJ mem o (ix i) x) H1 l1 (chk h).2 ⟨?_, hS⟩)
  rw [upd_gJ, gW_set (m' := gsJ mem o (ix i) x) hF.1.1 hq (by rw [hs]; rfl) (fun _ hb => gCell_sJ hb)] at hP
  exact hP
/-! branches that take their part of what is printed -/
theorem b_if_eq {x : Int32} {off : Int} {tgt : Nat} {α : Type} {X Y : Option α} {r : α} (hC : gC p s m args meth c cc nL own D cy) (hdg : decode cc pc = .ok (.ifCond .eq off, 3)) (ht : (pc : Int) + off = (tgt : Int)) (h : (if x = 0 then X else Y) = some r)
    (kt : X = some r → W p l e R s m args below meth c H locs cells slots Q (F0 m tgt ls rest)) (kf : Y = some r → W p l e R s m args below meth c H locs cells slots Q (F0 m (pc + 3) ls rest)) : W p l e R s m args below meth c H locs cells slots Q (F0 m pc ls (.int x :: rest)) :=
  lv_if_eq hC.x hC.b hdg ht (fun z => kt (ifp z h)) (fun z => kf (ifn z h))
theorem b_if_ne {x : Int32} {off : Int} {tgt : Nat} {α : Type} {X Y : Option α} {r : α} (hC : gC p s m args meth c cc nL own D cy) (hdg : decode cc pc = .ok (.ifCond .ne off, 3)) (ht : (pc : Int) + off = (tgt : Int)) (h : (if x = 0 then X else Y) = some r)
    (kt : Y = some r → W p l e R s m args below meth c H locs cells slots Q (F0 m tgt ls rest)) (kf : X = some r → W p l e R s m args below meth c H locs cells slots Q (F0 m (pc + 3) ls rest)) : W p l e R s m args below meth c H locs cells slots Q (F0 m pc ls (.int x :: rest)) :=
  lv_if_ne hC.x hC.b hdg ht (fun z => kt (ifn z h)) (fun z => kf (ifp z h))
theorem b_if_lt {x : Int32} {off : Int} {tgt : Nat} {α : Type} {X Y : Option α} {r : α} (hC : gC p s m args meth c cc nL own D cy) (hdg : decode cc pc = .ok (.ifCond .lt off, 3)) (ht : (pc : Int) + off = (tgt : Int)) (h : (if x < 0 then X else Y) = some r)
    (kt : X = some r → W p l e R s m args below meth c H locs cells slots Q (F0 m tgt ls rest)) (kf : Y = some r → W p l e R s m args below meth c H locs cells slots Q (F0 m (pc + 3) ls rest)) : W p l e R s m args below meth c H locs cells slots Q (F0 m pc ls (.int x :: rest)) :=
  lv_if_lt hC.x hC.b hdg ht (fun z => kt (ifp z h)) (fun z => kf (ifn z h))
theorem b_if_ge {x : Int32} {off : Int} {tgt : Nat} {α : Type} {X Y : Option α} {r : α} (hC : gC p s m args meth c cc nL own D cy) (hdg : decode cc pc = .ok (.ifCond .ge off, 3)) (ht : (pc : Int) + off = (tgt : Int)) (h : (if 0 ≤ x then X else Y) = some r)
    (kt : X = some r → W p l e R s m args below meth c H locs cells slots Q (F0 m tgt ls rest)) (kf : Y = some r → W p l e R s m args below meth c H locs cells slots Q (F0 m (pc + 3) ls rest)) : W p l e R s m args below meth c H locs cells slots Q (F0 m pc ls (.int x :: rest)) :=
  lv_if_ge hC.x hC.b hdg ht (fun z => kt (ifp z h)) (fun z => kf (ifn z h))
theorem b_if_gt {x : Int32} {off : Int} {tgt : Nat} {α : Type} {X Y : Option α} {r : α} (hC : gC p s m args meth c cc nL own D cy) (hdg : decode cc pc = .ok (.ifCond .gt off, 3)) (ht : (pc : Int) + off = (tgt : Int)) (h : (if 0 < x then X else Y) = some r)
    (kt : X = some r → W p l e R s m args below meth c H locs cells slots Q (F0 m tgt ls rest)) (kf : Y = some r → W p l e R s m args below meth c H locs cells slots Q (F0 m (pc + 3) ls rest)) : W p l e R s m args below meth c H locs cells slots Q (F0 m pc ls (.int x :: rest)) :=
  lv_if_gt hC.x hC.b hdg ht (fun z => kt (ifp z h)) (fun z => kf (ifn z h))
theorem b_if_le {x : Int32} {off : Int} {tgt : Nat} {α : Type} {X Y : Option α} {r : α} (hC : gC p s m args meth c cc nL own D cy) (hdg : decode cc pc = .ok (.ifCond .le off, 3)) (ht : (pc : Int) + off = (tgt : Int)) (h : (if x ≤ 0 then X else Y) = some r)
    (kt : X = some r → W p l e R s m args below meth c H locs cells slots Q (F0 m tgt ls rest)) (kf : Y = some r → W p l e R s m args below meth c H locs cells slots Q (F0 m (pc + 3) ls rest)) : W p l e R s m args below meth c H locs cells slots Q (F0 m pc ls (.int x :: rest)) :=
  lv_if_le hC.x hC.b hdg ht (fun z => kt (ifp z h)) (fun z => kf (ifn z h))
theorem b_ic_eq {x y : Int32} {off : Int} {tgt : Nat} {α : Type} {X Y : Option α} {r : α} (hC : gC p s m args meth c cc nL own D cy) (hdg : decode cc pc = .ok (.if_icmp .eq off, 3)) (ht : (pc : Int) + off = (tgt : Int)) (h : (if x = y then X else Y) = some r)
    (kt : X = some r → W p l e R s m args below meth c H locs cells slots Q (F0 m tgt ls rest)) (kf : Y = some r → W p l e R s m args below meth c H locs cells slots Q (F0 m (pc + 3) ls rest)) : W p l e R s m args below meth c H locs cells slots Q (F0 m pc ls (.int y :: .int x :: rest)) :=
  lv_icmp_eq hC.x hC.b hdg ht (fun z => kt (ifp z h)) (fun z => kf (ifn z h))
theorem b_ic_ne {x y : Int32} {off : Int} {tgt : Nat} {α : Type} {X Y : Option α} {r : α} (hC : gC p s m args meth c cc nL own D cy) (hdg : decode cc pc = .ok (.if_icmp .ne off, 3)) (ht : (pc : Int) + off = (tgt : Int)) (h : (if x = y then X else Y) = some r)
    (kt : Y = some r → W p l e R s m args below meth c H locs cells slots Q (F0 m tgt ls rest)) (kf : X = some r → W p l e R s m args below meth c H locs cells slots Q (F0 m (pc + 3) ls rest)) : W p l e R s m args below meth c H locs cells slots Q (F0 m pc ls (.int y :: .int x :: rest)) :=
  lv_icmp_ne hC.x hC.b hdg ht (fun z => kt (ifn z h)) (fun z => kf (ifp z h))
theorem b_ic_lt {x y : Int32} {off : Int} {tgt : Nat} {α : Type} {X Y : Option α} {r : α} (hC : gC p s m args meth c cc nL own D cy) (hdg : decode cc pc = .ok (.if_icmp .lt off, 3)) (ht : (pc : Int) + off = (tgt : Int)) (h : (if x < y then X else Y) = some r)
    (kt : X = some r → W p l e R s m args below meth c H locs cells slots Q (F0 m tgt ls rest)) (kf : Y = some r → W p l e R s m args below meth c H locs cells slots Q (F0 m (pc + 3) ls rest)) : W p l e R s m args below meth c H locs cells slots Q (F0 m pc ls (.int y :: .int x :: rest)) :=
  lv_icmp_lt hC.x hC.b hdg ht (fun z => kt (ifp z h)) (fun z => kf (ifn z h))
theorem b_ic_ge {x y : Int32} {off : Int} {tgt : Nat} {α : Type} {X Y : Option α} {r : α} (hC : gC p s m args meth c cc nL own D cy) (hdg : decode cc pc = .ok (.if_icmp .ge off, 3)) (ht : (pc : Int) + off = (tgt : Int)) (h : (if y ≤ x then X else Y) = some r)
    (kt : X = some r → W p l e R s m args below meth c H locs cells slots Q (F0 m tgt ls rest)) (kf : Y = some r → W p l e R s m args below meth c H locs cells slots Q (F0 m (pc + 3) ls rest)) : W p l e R s m args below meth c H locs cells slots Q (F0 m pc ls (.int y :: .int x :: rest)) :=
  lv_icmp_ge hC.x hC.b hdg ht (fun z => kt (ifp z h)) (fun z => kf (ifn z h))
theorem b_ic_gt {x y : Int32} {off : Int} {tgt : Nat} {α : Type} {X Y : Option α} {r : α} (hC : gC p s m args meth c cc nL own D cy) (hdg : decode cc pc = .ok (.if_icmp .gt off, 3)) (ht : (pc : Int) + off = (tgt : Int)) (h : (if y < x then X else Y) = some r)
    (kt : X = some r → W p l e R s m args below meth c H locs cells slots Q (F0 m tgt ls rest)) (kf : Y = some r → W p l e R s m args below meth c H locs cells slots Q (F0 m (pc + 3) ls rest)) : W p l e R s m args below meth c H locs cells slots Q (F0 m pc ls (.int y :: .int x :: rest)) :=
  lv_icmp_gt hC.x hC.b hdg ht (fun z => kt (ifp z h)) (fun z => kf (ifn z h))
theorem b_ic_le {x y : Int32} {off : Int} {tgt : Nat} {α : Type} {X Y : Option α} {r : α} (hC : gC p s m args meth c cc nL own D cy) (hdg : decode cc pc = .ok (.if_icmp .le off, 3)) (ht : (pc : Int) + off = (tgt : Int)) (h : (if x ≤ y then X else Y) = some r)
    (kt : X = some r → W p l e R s m args below meth c H locs cells slots Q (F0 m tgt ls rest)) (kf : Y = some r → W p l e R s m args below meth c H locs cells slots Q (F0 m (pc + 3) ls rest)) : W p l e R s m args below meth c H locs cells slots Q (F0 m pc ls (.int y :: .int x :: rest)) :=
  lv_icmp_le hC.x hC.b hdg ht (fun z => kt (ifp z h)) (fun z => kf (ifn z h))
/-- a reference that may be null -/
theorem b_null {x : Option Nat} {off : Int} {tgt : Nat} {α : Type} {X : Option α} {Y : Nat → Option α} {r : α} (hC : gC p s m args meth c cc nL own D cy) (hdg : decode cc pc = .ok (.ifnull off, 3)) (ht : (pc : Int) + off = (tgt : Int)) (h : oc x X Y = some r)
    (kt : x = none → X = some r → W p l e R s m args below meth c H locs cells slots Q (F0 m tgt ls rest)) (kf : ∀ y : Nat, x = some y → Y y = some r → W p l e R s m args below meth c H locs cells slots Q (F0 m (pc + 3) ls rest)) : W p l e R s m args below meth c H locs cells slots Q (F0 m pc ls (va_rf (x.map ad) :: rest)) := by
  cases x with
  | none => exact lv_ifnullN hC.x hC.b hdg ht (kt rfl h)
  | some y => exact lv_ifnull hC.x hC.b hdg (kf y rfl h)
theorem b_nonnull {x : Option Nat} {off : Int} {tgt : Nat} {α : Type} {X : Option α} {Y : Nat → Option α} {r : α} (hC : gC p s m args meth c cc nL own D cy) (hdg : decode cc pc = .ok (.ifnonnull off, 3)) (ht : (pc : Int) + off = (tgt : Int)) (h : oc x X Y = some r)
    (kf : x = none → X = some r → W p l e R s m args below meth c H locs cells slots Q (F0 m (pc + 3) ls rest)) (kt : ∀ y : Nat, x = some y → Y y = some r → W p l e R s m args below meth c H locs cells slots Q (F0 m tgt ls rest)) : W p l e R s m args below meth c H locs cells slots Q (F0 m pc ls (va_rf (x.map ad) :: rest)) := by
  cases x with
  | none => exact lv_ifnonnullN hC.x hC.b hdg (kf rfl h)
  | some y => exact lv_ifnonnull hC.x hC.b hdg ht (kt y rfl h)
/-! names -/
theorem n_i {x : Int32} {α : Type} {K : Int32 → Option α} {r : α} (h : lt1 x K = some r) (kk : ∀ y : Int32, K y = some r → W p l e R s m args below meth c H locs cells slots Q (F0 m pc ls (.int y :: rest))) : W p l e R s m args below meth c H locs cells slots Q (F0 m pc ls (.int x :: rest)) := kk x h
theorem n_l {x : Int64} {α : Type} {K : Int64 → Option α} {r : α} (h : lt1 x K = some r) (kk : ∀ y : Int64, K y = some r → W p l e R s m args below meth c H locs cells slots Q (F0 m pc ls (.long y :: rest))) : W p l e R s m args below meth c H locs cells slots Q (F0 m pc ls (.long x :: rest)) := kk x h
theorem r_idiv {x y : Int32} {α : Type} {X : Option α} {r : α} (hC : gC p s m args meth c cc nL own D cy) (hdg : decode cc pc = .ok (.idiv, 1)) (h : (if ¬ y = 0 then X else none) = some r) (k : X = some r → W p l e R s m args below meth c H locs cells slots Q (F0 m (pc + 1) ls (.int (x / y) :: rest))) : W p l e R s m args below meth c H locs cells slots Q (F0 m pc ls (.int y :: .int x :: rest)) :=
  lv_idiv hC.x hC.b hdg (chk h).1 (k (chk h).2)
theorem r_irem {x y : Int32} {α : Type} {X : Option α} {r : α} (hC : gC p s m args meth c cc nL own D cy) (hdg : decode cc pc = .ok (.irem, 1)) (h : (if ¬ y = 0 then X else none) = some r) (k : X = some r → W p l e R s m args below meth c H locs cells slots Q (F0 m (pc + 1) ls (.int (x - x / y * y) :: rest))) : W p l e R s m args below meth c H locs cells slots Q (F0 m pc ls (.int y :: .int x :: rest)) :=
  lv_irem hC.x hC.b hdg (chk h).1 (k (chk h).2)
/-! ends -/
theorem e_i {x rv : Int32} {mem' : gMem} (hC : gC p s m args meth c cc nL own D cy) (hr : meth.sig.returnType = some .int) (hH : gH D cy sh ad L A s.heap mem H locs) (h : some (x, mem) = some (rv, mem')) (hdg : decode cc pc = .ok (.ireturn, 1)) : W p l e R s m args below meth c H locs cells slots (MQ below (gQ (some (.int rv)) A (gP1 D cy sh ad L mem')) args s cells slots A) (F0 m pc ls [.int x]) := by
  cases h
  exact W.iret hC.x hC.b hr (fun t ht _ => ⟨rfl, by show va_P _ _ _ _; rw [ht]; exact hH.P, hH.S.F ht⟩) hH.S.2.2 hdg hC.lk
theorem e_ir {x rv : Int32} (hC : gC p s m args meth c cc nL own D cy) (hr : meth.sig.returnType = some .int) (hH : gH D cy sh ad L A s.heap mem H locs) (h : some x = some rv) (hdg : decode cc pc = .ok (.ireturn, 1)) : W p l e R s m args below meth c H locs cells slots (MQ below (gQ (some (.int rv)) A (gP1 D cy sh ad L mem)) args s cells slots A) (F0 m pc ls [.int x]) := by
  cases h
  exact W.iret hC.x hC.b hr (fun t ht _ => ⟨rfl, by show va_P _ _ _ _; rw [ht]; exact hH.P, hH.S.F ht⟩) hH.S.2.2 hdg hC.lk
theorem e_n {ty : FieldType} {x rv : Int32} {mem' : gMem} (hC : gC p s m args meth c cc nL own D cy) (hr : meth.sig.returnType = some ty) (hn : narrow ty (.int x) = .int x) (hH : gH D cy sh ad L A s.heap mem H locs) (h : some (x, mem) = some (rv, mem')) (hdg : decode cc pc = .ok (.ireturn, 1)) : W p l e R s m args below meth c H locs cells slots (MQ below (gQ (some (.int rv)) A (gP1 D cy sh ad L mem')) args s cells slots A) (F0 m pc ls [.int x]) := by
  cases h
  exact W.zret hC.x hC.b hr hn (fun t ht _ => ⟨rfl, by show va_P _ _ _ _; rw [ht]; exact hH.P, hH.S.F ht⟩) hH.S.2.2 hdg hC.lk
theorem e_nr {ty : FieldType} {x rv : Int32} (hC : gC p s m args meth c cc nL own D cy) (hr : meth.sig.returnType = some ty) (hn : narrow ty (.int x) = .int x) (hH : gH D cy sh ad L A s.heap mem H locs) (h : some x = some rv) (hdg : decode cc pc = .ok (.ireturn, 1)) : W p l e R s m args below meth c H locs cells slots (MQ below (gQ (some (.int rv)) A (gP1 D cy sh ad L mem)) args s cells slots A) (F0 m pc ls [.int x]) := by
  cases h
  exact W.zret hC.x hC.b hr hn (fun t ht _ => ⟨rfl, by show va_P _ _ _ _; rw [ht]; exact hH.P, hH.S.F ht⟩) hH.S.2.2 hdg hC.lk
theorem e_z {x rv : Int32} {mem' : gMem} (hC : gC p s m args meth c cc nL own D cy) (hr : meth.sig.returnType = some .boolean) (hH : gH D cy sh ad L A s.heap mem H locs) (h : (if isB x then some (x, mem) else none) = some (rv, mem')) (hdg : decode cc pc = .ok (.ireturn, 1)) : W p l e R s m args below meth c H locs cells slots (MQ below (gQ (some (.int rv)) A (gP1 D cy sh ad L mem')) args s cells slots A) (F0 m pc ls [.int x]) := e_n hC hr (isB_n (chk h).1) hH (chk h).2 hdg
theorem e_zr {x rv : Int32} (hC : gC p s m args meth c cc nL own D cy) (hr : meth.sig.returnType = some .boolean) (hH : gH D cy sh ad L A s.heap mem H locs) (h : (if isB x then some x else none) = some rv) (hdg : decode cc pc = .ok (.ireturn, 1)) : W p l e R s m args below meth c H locs cells slots (MQ below (gQ (some (.int rv)) A (gP1 D cy sh ad L mem)) args s cells slots A) (F0 m pc ls [.int x]) := e_nr hC hr (isB_n (chk h).1) hH (chk h).2 hdg
theorem e_l {x rv : Int64} {mem' : gMem} (hC : gC p s m args meth c cc nL own D cy) (hr : meth.sig.returnType = some .long) (hH : gH D cy sh ad L A s.heap mem H locs) (h : some (x, mem) = some (rv, mem')) (hdg : decode cc pc = .ok (.lreturn, 1)) : W p l e R s m args below meth c H locs cells slots (MQ below (gQ (some (.long rv)) A (gP1 D cy sh ad L mem')) args s cells slots A) (F0 m pc ls [.long x]) := by
  cases h
  exact W.lret hC.x hC.b hr (fun t ht _ => ⟨rfl, by show va_P _ _ _ _; rw [ht]; exact hH.P, hH.S.F ht⟩) hH.S.2.2 hdg hC.lk
theorem e_lr {x rv : Int64} (hC : gC p s m args meth c cc nL own D cy) (hr : meth.sig.returnType = some .long) (hH : gH D cy sh ad L A s.heap mem H locs) (h : some x = some rv) (hdg : decode cc pc = .ok (.lreturn, 1)) : W p l e R s m args below meth c H locs cells slots (MQ below (gQ (some (.long rv)) A (gP1 D cy sh ad L mem)) args s cells slots A) (F0 m pc ls [.long x]) := by
  cases h
  exact W.lret hC.x hC.b hr (fun t ht _ => ⟨rfl, by show va_P _ _ _ _; rw [ht]; exact hH.P, hH.S.F ht⟩) hH.S.2.2 hdg hC.lk
theorem e_v {mem' : gMem} (hC : gC p s m args meth c cc nL own D cy) (hr : meth.sig.returnType = none) (hH : gH D cy sh ad L A s.heap mem H locs) (h : some mem = some mem') (hdg : decode cc pc = .ok (.return_, 1)) : W p l e R s m args below meth c H locs cells slots (MQ below (gQ none A (gP1 D cy sh ad L mem')) args s cells slots A) (F0 m pc ls []) := by
  cases h
  exact W.vret hC.x hC.b hr (fun t ht _ => ⟨rfl, by show va_P _ _ _ _; rw [ht]; exact hH.P, hH.S.F ht⟩) hH.S.2.2 hdg hC.lk
theorem e_vr (hC : gC p s m args meth c cc nL own D cy) (hr : meth.sig.returnType = none) (hH : gH D cy sh ad L A s.heap mem H locs) (hdg : decode cc pc = .ok (.return_, 1)) : W p l e R s m args below meth c H locs cells slots (MQ below (gQ none A (gP1 D cy sh ad L mem)) args s cells slots A) (F0 m pc ls []) :=
  W.vret hC.x hC.b hr (fun t ht _ => ⟨rfl, by show va_P _ _ _ _; rw [ht]; exact hH.P, hH.S.F ht⟩) hH.S.2.2 hdg hC.lk
/-- a reference, no cell changed -/
theorem e_ar {v : Value} {x rv : Option Nat} {rt : FieldType} (hC : gC p s m args meth c cc nL own D cy) (hr : meth.sig.returnType = some rt) (hrt : (∃ n, rt = .object n) ∨ ∃ t, rt = .array t) (hv : v = va_rf (x.map ad)) (hH : gH D cy sh ad L A s.heap mem H locs) (h : some x = some rv) (hdg : decode cc pc = .ok (.areturn, 1)) : W p l e R s m args below meth c H locs cells slots (MQ below (gQ (some (va_rf (rv.map ad))) A (gP1 D cy sh ad L mem)) args s cells slots A) (F0 m pc ls [v]) := by
  cases h
  subst hv
  exact W.aret hC.x hC.b hr hrt (va_rf_or _) (fun t ht _ => ⟨rfl, by show va_P _ _ _ _; rw [ht]; exact hH.P, hH.S.F ht⟩) hH.S.2.2 hdg hC.lk
end GR
/-! a method's start -/
theorem g_start {l : Launch} {y : MethodName} {cc : ByteArray} {nL : Nat} {ret : Option FieldType} {fr lo : Nat} {E : State → Prop} {D : va_G} {cy : Nat → ClassId} {sh : Nat → gShp} {ad : Nat → Nat} {L : List Nat} {av : List Value} {mem mem' : gMem} {ov : Option Value} {own : String} (hpl : plainName y.cls = true) (ho : y.cls = own) (hE : ∀ s : State, E s → gX (gA ad L) s E) (hlen : (lg_sl av).length ≤ nL)
    (body : ∀ (p : Program) (e : Env) (s : State) (m : MethodId) (below : List Frame) (meth : Method) (c : Code), gC p s m av.toArray meth c cc nL own D cy → meth.sig.returnType = ret → gX (gA ad L) s E → ∀ (H : Heap) (locs : List Loc) (ls : Array Slot), gH D cy sh ad L (gA ad L) s.heap mem H locs → lv_has ls nL (lv_args 0 av) →
      W p l e (gRm fr lo) s m av.toArray below meth c H locs 0 0 (MQ below (gQ ov (gA ad L) (gP1 D cy sh ad L mem')) av.toArray s 0 0 (gA ad L)) (F0 m 0 ls [])) : gMet l y cc nL ret fr lo E D cy sh ad L av mem mem' ov := by
  refine Met.ofW (cc := cc) (maxL := nL) (ret := ret) hpl rfl ?_
  intro p e s m args below meth c s₁ B hml hv
  obtain ⟨rfl, hP, hK, hEs⟩ := hv
  have hts0 := atoms_spec (ws := Cond.code y cc nL ret :: WS) B.pre
  rw [lg_entry_eq]
  exact body p e s m below meth c ⟨B.exec, B.bytes, hml, by rw [← ho]; exact findClass_of_methodNamed B.named, fun w h => hts0 w (List.mem_cons_of_mem _ h), hK, B.notSynchronized⟩ B.returns (hE s hEs) s.heap [] _ ⟨hP, va_S.rf⟩ (lv_entry av hlen)
