/-! the tapes' rows: seven cells at once; what is left to say of numbers and shapes -/
theorem nc2 {fs : List Nat} (h : fs.all (fun c => c < 2) = true) : ∀ c : Nat, c + 2 ∉ fs := fun c hc => by
  have := List.all_eq_true.mp h _ hc
  have := of_decide_eq_true this
  omega
theorem gCl_up {sh : Nat → gShp} {L : List Nat} {mem : gMem} {j : Nat} (h : gCl sh L mem) (hz : gZ L mem) (hj : j ∉ L) (hs : (sh j).2.2.all (fun c => c < 2) = true) : gCl sh (j :: L) mem := by
  intro o ho
  rcases List.mem_cons.mp ho with e1 | ho
  · subst e1
    exact ⟨fun k b hb => (by rw [(hz o hj k).2.2] at hb; cases hb), fun c hc => absurd hc (nc2 hs c)⟩
  · exact ⟨fun k b hb => List.mem_cons_of_mem _ ((h o ho).1 k b hb), fun c hc => List.mem_cons_of_mem _ ((h o ho).2 c hc)⟩
def mTap (mem : gMem) : gMem := (mem.1, (mem.2.1, fun o k => if o = 5 ∧ k < 6 then some (50 + k) else mem.2.2 o k))
theorem mTap_R {mem : gMem} {o k : Nat} (h : o ≠ 5) : gR (mTap mem) o k = gR mem o k := if_neg (fun z => h z.1)
def LT6 (L : List Nat) : List Nat := 5 :: 50 :: 51 :: 52 :: 53 :: 54 :: 55 :: L
theorem mTap_Z {L : List Nat} {mem : gMem} (h : gZ L mem) : gZ (LT6 L) (mTap mem) := by
  intro o ho k
  have h5 : o ≠ 5 := fun z => ho (z ▸ List.mem_cons_self)
  have hL : o ∉ L := fun z => ho (List.mem_cons_of_mem _ (List.mem_cons_of_mem _ (List.mem_cons_of_mem _ (List.mem_cons_of_mem _ (List.mem_cons_of_mem _ (List.mem_cons_of_mem _ (List.mem_cons_of_mem _ z)))))))
  exact ⟨(h o hL k).1, (h o hL k).2.1, (mTap_R h5).trans (h o hL k).2.2⟩
theorem LT6_m {L : List Nat} {o : Nat} : o ∈ LT6 L ↔ o = 5 ∨ (50 ≤ o ∧ o ≤ 55) ∨ o ∈ L := by
  simp only [LT6, List.mem_cons]
  constructor
  · rintro (h | h | h | h | h | h | h | h)
    · exact Or.inl h
    · exact Or.inr (Or.inl (by omega))
    · exact Or.inr (Or.inl (by omega))
    · exact Or.inr (Or.inl (by omega))
    · exact Or.inr (Or.inl (by omega))
    · exact Or.inr (Or.inl (by omega))
    · exact Or.inr (Or.inl (by omega))
    · exact Or.inr (Or.inr h)
  · rintro (h | h | h)
    · exact Or.inl h
    · have : o = 50 ∨ o = 51 ∨ o = 52 ∨ o = 53 ∨ o = 54 ∨ o = 55 := by omega
      rcases this with h | h | h | h | h | h
      · exact Or.inr (Or.inl h)
      · exact Or.inr (Or.inr (Or.inl h))
      · exact Or.inr (Or.inr (Or.inr (Or.inl h)))
      · exact Or.inr (Or.inr (Or.inr (Or.inr (Or.inl h))))
      · exact Or.inr (Or.inr (Or.inr (Or.inr (Or.inr (Or.inl h)))))
      · exact Or.inr (Or.inr (Or.inr (Or.inr (Or.inr (Or.inr (Or.inl h))))))
    · exact Or.inr (Or.inr (Or.inr (Or.inr (Or.inr (Or.inr (Or.inr h))))))
theorem mTap_Cl {sh : Nat → gShp} {L : List Nat} {mem : gMem} (h : gCl sh L mem) (hz : gZ L mem) (hs : ∀ o, o = 5 ∨ (50 ≤ o ∧ o ≤ 55) → o ∉ L ∧ (sh o).2.2 = []) : gCl sh (LT6 L) (mTap mem) := by
  intro o ho
  have up : ∀ b, b ∈ L → b ∈ LT6 L := fun b hb => LT6_m.mpr (Or.inr (Or.inr hb))
  by_cases h5 : o = 5
  · subst h5
    refine ⟨fun k b hb => ?_, fun c hc => by rw [(hs 5 (Or.inl rfl)).2] at hc; cases hc⟩
    change (if 5 = 5 ∧ k < 6 then some (50 + k) else gR mem 5 k) = some b at hb
    by_cases hk : k < 6
    · rw [if_pos ⟨rfl, hk⟩] at hb
      cases hb
      exact LT6_m.mpr (Or.inr (Or.inl (by omega)))
    · rw [if_neg (fun z => hk z.2), (hz 5 (hs 5 (Or.inl rfl)).1 k).2.2] at hb
      cases hb
  · rcases LT6_m.mp ho with z | z | z
    · exact absurd z h5
    · have hn := hs o (Or.inr z)
      refine ⟨fun k b hb => ?_, fun c hc => by rw [hn.2] at hc; cases hc⟩
      rw [mTap_R h5, (hz o hn.1 k).2.2] at hb
      cases hb
    · exact ⟨fun k b hb => up b ((h o z).1 k b (by rw [mTap_R h5] at hb; exact hb)), fun c hc => up c ((h o z).2 c hc)⟩
theorem arr_eq {c : ClassId} {N : Nat} {f g : Nat → Value} (h : ∀ k, k < N → f k = g k) : arrV c N f = arrV c N g := by
  unfold arrV
  have e : (Array.ofFn (n := N) fun j => f j.val) = Array.ofFn (n := N) fun j => g j.val := by
    congr 1
    funext j
    exact h j.val j.isLt
  rw [e]
/-! six rows of sixty longs at once, cell by cell: the outer row, behind it the six -/
def tpO (cA : ClassId) (h i : Nat) : Cell := arrV cA 6 (fun k => if k < i then .ref (h + 1 + k) else .null)
def tpI (cB : ClassId) : Cell := arrV cB 60 (fun _ => .long 0)
theorem tpO_0 (cA : ClassId) (h : Nat) : ({ cls := cA, slots := Array.replicate 6 .null } : Cell) = tpO cA h 0 :=
  (arrV_new cA 6 .null).trans (arr_eq (fun k _ => (if_neg (Nat.not_lt_zero k)).symm))
theorem tpO_up (cA : ClassId) (h i : Nat) : (tpO cA h i).setSlot i (.ref (h + 1 + i)) = tpO cA h (i + 1) := by
  unfold tpO
  rw [arrV_store]
  refine arr_eq (fun k _ => ?_)
  unfold updV
  by_cases q : k = i
  · rw [if_pos q, if_pos (by omega), q]
  · rw [if_neg q]
    dsimp only
    by_cases r : k < i
    · rw [if_pos r, if_pos (by omega)]
    · rw [if_neg r, if_neg (by omega)]
def tpS (s : State) (cA cB : ClassId) : Nat → State
  | 0 => s.pushCell (tpO cA s.heap.size 0)
  | i + 1 => ((tpS s cA cB i).pushCell (tpI cB)).setCell s.heap.size (tpO cA s.heap.size (i + 1))
theorem tpS_size (s : State) (cA cB : ClassId) : ∀ i, (tpS s cA cB i).heap.size = s.heap.size + 1 + i
  | 0 => by simp [tpS]
  | i + 1 => by
    have a := tpS_size s cA cB i
    simp [tpS, State.setCell, a]
    omega
theorem tpS_own (s : State) (cA cB : ClassId) : ∀ i, (tpS s cA cB i).heap[s.heap.size]? = some (tpO cA s.heap.size i)
  | 0 => State.heap_pushCell_size _ _
  | i + 1 => State.heap_setCell_self (c := tpO cA s.heap.size i) (by rw [State.heap_pushCell_of_lt (h := show s.heap.size < (tpS s cA cB i).heap.size by rw [tpS_size]; omega)]; exact tpS_own s cA cB i)
theorem tpS_vm (s : State) (cA cB : ClassId) : ∀ i, (tpS s cA cB i).vm = s.vm
  | 0 => rfl
  | i + 1 => tpS_vm s cA cB i
theorem tpS_used (s : State) (cA cB : ClassId) : ∀ i, (tpS s cA cB i).slotsUsed = s.slotsUsed + 6 + i * 60
  | 0 => by
    show s.slotsUsed + (tpO cA s.heap.size 0).slots.size = _
    rw [tpO, arrV_size, Nat.zero_mul]
  | i + 1 => by
    show (tpS s cA cB i).slotsUsed + (tpI cB).slots.size = _
    rw [tpS_used s cA cB i, tpI, arrV_size]
    omega
theorem tpS_old (s : State) (cA cB : ClassId) {a : Addr} (ha : a < s.heap.size) : ∀ i, (tpS s cA cB i).heap[a]? = s.heap[a]?
  | 0 => State.heap_pushCell_of_lt _ _ ha
  | i + 1 => by
    show (((tpS s cA cB i).pushCell (tpI cB)).setCell s.heap.size (tpO cA s.heap.size (i + 1))).heap[a]? = _
    rw [State.heap_setCell_other (show s.heap.size ≠ a from Nat.ne_of_gt ha), State.heap_pushCell_of_lt (h := Nat.lt_of_lt_of_le ha (by rw [tpS_size, Nat.add_assoc]; exact Nat.le_add_right _ _))]
    exact tpS_old s cA cB ha i
theorem tpS_row (s : State) (cA cB : ClassId) : ∀ i j, j < i → (tpS s cA cB i).heap[s.heap.size + 1 + j]? = some (tpI cB)
  | 0, _, h => absurd h (Nat.not_lt_zero _)
  | i + 1, j, h => by
    show (((tpS s cA cB i).pushCell (tpI cB)).setCell s.heap.size (tpO cA s.heap.size (i + 1))).heap[s.heap.size + 1 + j]? = _
    rw [State.heap_setCell_other (show s.heap.size ≠ s.heap.size + 1 + j by omega)]
    by_cases q : j = i
    · have e := State.heap_pushCell_size (tpS s cA cB i) (tpI cB)
      rw [tpS_size] at e
      rw [q]
      exact e
    · rw [State.heap_pushCell_of_lt (h := show s.heap.size + 1 + j < (tpS s cA cB i).heap.size by rw [tpS_size]; omega)]
      exact tpS_row s cA cB i j (by omega)
theorem tpS_top (s : State) (f : JFrame) (cA cB : ClassId) : ∀ i, tpS (s.setTop f) cA cB i = (tpS s cA cB i).setTop f
  | 0 => rfl
  | i + 1 => by
    unfold tpS
    rw [tpS_top s f cA cB i]
    simp only [State.heap_setTop, State.pushCell_setTop, State.setCell_setTop]
section TPW
variable {E : CtlPost} {e : Env} {d : Bool} {acts : List Action} {s : State}
theorem tp_make1 {cB cc : ClassId} {kB : Class} {Q : Addr → Pre} (hk : s.vm.classes[cB]? = some kB) (hkind : kB.kind = .array cc .long) (hl : ¬ 60 > e.platform.arrayLengthLimit) (hh : ¬ 60 * componentBytes .long > e.platform.maxHeapBytes) (h1 : s.heap.size < e.platform.maxCells) (h2 : s.slotsUsed + 60 ≤ e.platform.maxSlots) (hq : ∀ acts', Q s.heap.size d acts' (s.pushCell (tpI cB))) : wp (Op.multianewarray.make cB [nI 60]) Q E e d acts s := by
  rw [Op.multianewarray.make]
  simp only [wp_bind', W.ite, show ¬ nI 60 < (0 : Int32) by decide, if_false, wp_pure', W.theClass, hk, hkind, Option.some.injEq, exists_eq_left', show (nI 60).toNatClampNeg = 60 from rfl]
  refine W.newArray_of hk hkind hl hh h1 h2 rfl (fun a => ?_)
  have e1 : ({ cls := cB, slots := Array.replicate 60 (defaultValue .long) } : Cell) = tpI cB := arrV_new cB 60 (.long 0)
  rw [e1]
  exact hq a
theorem tp_make2 {cA cB cc : ClassId} {kA kB : Class} {Q : Addr → Pre} (hkA : s.vm.classes[cA]? = some kA) (hkindA : kA.kind = .array cB (.array .long)) (hkB : s.vm.classes[cB]? = some kB) (hkindB : kB.kind = .array cc .long) (hl6 : ¬ 6 > e.platform.arrayLengthLimit) (hh6 : ¬ 6 * componentBytes (.array .long) > e.platform.maxHeapBytes) (hl : ¬ 60 > e.platform.arrayLengthLimit) (hh : ¬ 60 * componentBytes .long > e.platform.maxHeapBytes) (hc : s.heap.size + 7 ≤ e.platform.maxCells) (hs : s.slotsUsed + 366 ≤ e.platform.maxSlots) (hq : ∀ d' acts', Q s.heap.size d' acts' (tpS s cA cB 6)) : wp (Op.multianewarray.make cA [nI 6, nI 60]) Q E e d acts s := by
  have hfind : ([nI 60].find? (· < 0)) = none := by decide
  rw [Op.multianewarray.make]
  simp only [wp_bind', W.ite, show ¬ nI 6 < (0 : Int32) by decide, if_false, wp_pure', W.theClass, hkA, hkindA, Option.some.injEq, exists_eq_left', show (nI 6).toNatClampNeg = 6 from rfl]
  refine W.newArray_of hkA hkindA hl6 hh6 (by omega) (by omega) rfl (fun a1 => ?_)
  simp only [hfind]
  rw [ite_self, wp_bind', Std.Legacy.Range.forIn_eq_forIn_range']
  rw [show ([:6] : Std.Legacy.Range).size = 6 by simp [Std.Legacy.Range.size]]
  show wp (forIn (List.range' 0 6 1) PUnit.unit _) _ E e d a1 _
  refine wp_forIn_inv (fun rest s' => ∃ i, i + rest.length = 6 ∧ rest = List.range' i rest.length ∧ s' = tpS s cA cB i) _ _ ⟨0, rfl, rfl, by rw [tpO_0 cA s.heap.size]; rfl⟩ ?_ ?_
  · rintro x rest s' d' acts' Q' ⟨i, h1, h2, rfl⟩ hnext
    rw [List.length_cons] at h1 h2
    rw [List.range'_succ] at h2
    obtain ⟨rfl, h2⟩ := List.cons.inj h2
    simp only [wp_bind']
    refine tp_make1 (by rw [tpS_vm]; exact hkB) hkindB hl hh (by rw [tpS_size]; omega) (by rw [tpS_used]; omega) (fun a2 => ?_)
    simp only [wp_bind', W.writeLoc, wp_pure']
    refine ⟨tpO cA s.heap.size x, ?_, ?_, ?_, ?_, hnext _ _ _ ⟨x + 1, by omega, h2, ?_⟩⟩
    · rw [State.heap_pushCell_of_lt (h := show s.heap.size < (tpS s cA cB x).heap.size by rw [tpS_size]; omega)]
      exact tpS_own s cA cB x
    · show VmData.none ≠ VmData.unknown
      simp
    · rw [tpO, arrV_size]
      omega
    · have hf : ∀ z : Addr, fits (.array .long) (.ref z) = true := fun _ => rfl
      show State.fitsSlot ((tpS s cA cB x).pushCell (tpI cB)) cA .none x (.ref _) = true
      simp [State.fitsSlot, State.slotType?, tpS_vm, hkA, hkindA, hf]
    · rw [tpS_size, tpO_up]
      rfl
  · rintro s' d' acts' ⟨i, h1, h2, rfl⟩
    have h1 : i = 6 := h1
    subst h1
    simp only [wp_pure']
    exact hq _ _
end TPW
section TPX
variable {p : Program} {l : Launch} {e : Env} {R : Room} {s : State} {m : MethodId} {args : Array Value} {below : List Frame} {meth : Method} {c : Code} {T : State} {locs : List Loc} {cells slots : Nat}
theorem tp_std (X : Stand p l e R s m args below meth c T locs cells slots) (cA cB : ClassId) : ∀ i, Stand p l e R s m args below meth c (tpS T cA cB i) locs (cells + 1 + i) (slots + 6 + i * 60)
  | 0 => by
    have h := X.pushed (tpO cA T.heap.size 0)
    rw [show (tpO cA T.heap.size 0).slots.size = 6 from arrV_size _ _ _] at h
    rw [Nat.zero_mul]
    exact h
  | i + 1 => by
    have h := (tp_std X cA cB i).pushed (tpI cB)
    rw [show (tpI cB).slots.size = 60 from arrV_size _ _ _] at h
    have ho : ((tpS T cA cB i).pushCell (tpI cB)).heap[T.heap.size]? = some (tpO cA T.heap.size i) := by
      rw [State.heap_pushCell_of_lt (h := show T.heap.size < (tpS T cA cB i).heap.size by rw [tpS_size]; omega)]
      exact tpS_own T cA cB i
    have h := (h.stored ho i (.ref (T.heap.size + 1 + i))).dropFresh (fun x hx => by rw [List.mem_singleton.mp hx]; exact X.heapGrown)
    rw [tpO_up] at h
    rw [show slots + 6 + (i + 1) * 60 = slots + 6 + i * 60 + 60 by omega]
    exact h
/-- the instruction itself -/
theorem tp_mul (X : Stand p l e R s m args below meth c T locs cells slots) (hexec : p.tables.exec = Jvm.exec) {own : String} {index : Nat} (hown : s.vm.findClass own = some m.cls) (hlink : (Cond.classLink own index "[[J").before args s = true) (hover : oA s) (harr : (Cond.arrayClass .long).before args s = true) {g : JFrame} (hg : g.method = m) (hdg : decode c.code g.pc = .ok (.multianewarray index 2, 4)) {rest : List Value} (hstack : g.stack = .int (nI 60) :: .int (nI 6) :: rest) (hcells : cells + 7 ≤ R.cells) (hslots : slots + 366 ≤ R.slots) : ∃ (vm₁ : Vm) (cA cB : ClassId), s.vm.findClass "[[J" = some cA ∧ s.vm.findClass "[J" = some cB ∧ Stand p l e R s m args below meth c (tpS (T.setVm vm₁) cA cB 6) locs (cells + 7) (slots + 366) ∧ ∀ target, Steps p.tables e below ((tpS (T.setVm vm₁) cA cB 6).setTop { g with pc := g.pc + 4, stack := .ref T.heap.size :: rest }) target → Steps p.tables e below (T.setTop g) target := by
  subst hg
  have hpl : e.platform.magicAccessors = ({} : Platform).magicAccessors := by rw [X.admits.platform]
  obtain ⟨cB, cA, kA, hB, -, hkA, hkindA, hA⟩ := arrayOverA_spec hover
  obtain ⟨cB', kB, cc, hB', hkB, hkindB⟩ := Cond.arrayClass_spec harr
  have eB : cB' = cB := Option.some.inj (hB'.symm.trans hB)
  subst eB
  obtain ⟨c0, hc0, hcl⟩ := Cond.classLink_spec hown hlink e.platform hpl
  have eA : c0 = cA := Option.some.inj (hc0.symm.trans hA)
  subst eA
  obtain ⟨hg₁, hwarm₁, hready₁⟩ := State.classEntry (e := e) X.warmed hcl
  generalize T.vm.noted g.method.cls index (.cls c0) = vm₁ at hg₁ hwarm₁ hready₁
  have hal : s.vm.Alike vm₁ := hwarm₁.alike
  obtain ⟨kA₁, hkA₁, heA⟩ := hal.2.2 _ _ hkA
  obtain ⟨kB₁, hkB₁, heB⟩ := hal.2.2 _ _ hkB
  have X₁ := X.noted hwarm₁
  have XF := tp_std X₁ c0 cB' 6
  obtain ⟨hr1, hr2⟩ := X.roomAbove hcells hslots
  refine ⟨vm₁, c0, cB', hA, hB, XF, fun target hrest => ?_⟩
  have lim : ∀ n : Nat, n ≤ 60 → ¬ n > e.platform.arrayLengthLimit := fun n hn => by rw [Launch.admits_arrayLengthLimit X.admits]; omega
  have byt : ∀ n : Nat, n ≤ 480 → ¬ n > e.platform.maxHeapBytes := fun n hn => by rw [Launch.admits_maxHeapBytes X.admits]; omega
  jvm_step X.here [hexec, hdg]
  simp only [multianewarray.sem, wp_bind', W.resolveClassAt_links (State.method?_setTop g X.here.top) hg₁]
  rw [W.popN, if_neg (by decide)]
  refine ⟨g, State.topJava?_setTop' (s := T.setVm vm₁) g X.here.top, [.int (nI 6), .int (nI 60)], rest, rfl, hstack, ?_⟩
  simp only [List.mapM_cons, List.mapM_nil, wp_bind', wp_pure']
  refine tp_make2 (cB := cB') (kA := kA₁) (kB := kB₁) hkA₁ (by rw [heA]; exact hkindA) hkB₁ (by rw [heB]; exact hkindB) (lim 6 (by decide)) (byt (6 * componentBytes (.array .long)) (by decide)) (lim 60 (by decide)) (byt (60 * componentBytes .long) (by decide)) (by show T.heap.size + 7 ≤ _; omega) (by show T.slotsUsed + 366 ≤ _; omega) (fun d' acts' => ?_)
  have eS : ((T.setTop g).setVm vm₁).setTop { g with stack := rest } = (T.setVm vm₁).setTop { g with stack := rest } := by
    show ((T.setVm vm₁).setTop g).setTop _ = _
    rw [State.setTop_setTop]
  rw [eS, tpS_top]
  simp only [wp_bind', W.mark, W.pushRef, State.topJava?_setTop' _ XF.here.top, Option.some.injEq, exists_eq_left', State.setTop_setTop, State.heap_setTop]
  intro acts
  simp [jvm, XF.here.top]
  exact hrest
end TPX
section NM
variable {p : Program} {l : Launch} {e : Env} {R : Room} {s : State} {m : MethodId} {args : Array Value} {below : List Frame} {meth : Method} {c : Code} {H : Heap} {locs : List Loc} {cells slots : Nat} {Q : State → Prop}
variable {cc : ByteArray} {nL : Nat} {own : String} {pc : Nat} {ls : Array Slot} {rest : List Value} {D : va_G} {cy : Nat → ClassId} {sh : Nat → gShp} {ad : Nat → Nat} {L : List Nat} {A : Nat → Prop} {mem : gMem}
theorem n_mul {index : Nat} {n k : Int32} (hC : gC p s m args meth c cc nL own D cy) (hG : gG D cy sh ad L A s.heap mem H locs) (hA : ∀ q, s.heap.size ≤ q → A q) (hs : ∀ o, o = 5 ∨ (50 ≤ o ∧ o ≤ 55) → o ∉ L ∧ (sh o).2.2 = []) (h5 : sh 5 = (7, 6, [])) (hT : ∀ o, 50 ≤ o → o ≤ 55 → sh o = (4, 60, [])) (k1 : Cond.classLink own index "[[J" ∈ WS) (hov : oA s) (k2 : Cond.arrayClass .long ∈ WS) (hn : n = nI 6) (hk : k = nI 60) (hcells : cells + 7 ≤ R.cells) (hslots : slots + 366 ≤ R.slots) (hdg : decode cc pc = .ok (.multianewarray index 2, 4))
    (kk : ∀ (ad' : Nat → Nat) (H1 : Heap) (b : Nat), (∀ o ∈ L, ad' o = ad o) → ad' 5 = b → gG D cy sh ad' (LT6 L) A s.heap (mTap mem) H1 locs → W p l e R s m args below meth c H1 locs (cells + 7) (slots + 366) Q (F0 m (pc + 4) ls (.ref b :: rest))) : W p l e R s m args below meth c H locs cells slots Q (F0 m pc ls (.int k :: .int n :: rest)) := by
  subst hn; subst hk
  intro T hT0 X
  obtain ⟨vm₁, cA, comp, hfA, hfC, X1, step⟩ := tp_mul X hC.x hC.ow (hC.ts _ k1) hov (hC.ts _ k2) (g := F0 m pc ls (.int (nI 60) :: .int (nI 6) :: rest)) rfl (by rw [hC.b]; exact hdg) (rest := rest) rfl hcells hslots
  have e6 : cA = cy 6 := Option.some.inj (hfA.symm.trans (hC.K.2 6 _ rfl).2)
  have e3 : comp = cy 3 := Option.some.inj (hfC.symm.trans (hC.K.2 3 _ rfl).2)
  subst e6; subst e3
  have hh : (T.setVm vm₁).heap = H := hT0
  have f1 := tpS_size (T.setVm vm₁) (cy 6) (cy 3) 6
  have f2 := tpS_own (T.setVm vm₁) (cy 6) (cy 3) 6
  have fo : ∀ a : Addr, a < H.size → (tpS (T.setVm vm₁) (cy 6) (cy 3) 6).heap[a]? = H[a]? := fun a ha => by
    rw [tpS_old (T.setVm vm₁) (cy 6) (cy 3) (by rw [hh]; exact ha), hh]
  have fi := tpS_row (T.setVm vm₁) (cy 6) (cy 3) 6
  rw [hh] at f1 f2 fi
  obtain ⟨hF, hH, hZ, hCl⟩ := hG
  have hlt : ∀ o ∈ L, ad o < H.size := fun o ho => (gP_iff.mp hH.1 o ho).lt
  have n5 := (hs 5 (Or.inl rfl)).1
  have hAd : ∃ ad' : Nat → Nat, (∀ o, ad' o = if o = 5 then H.size else if 50 ≤ o ∧ o ≤ 55 then H.size + 1 + (o - 50) else ad o) := ⟨_, fun _ => rfl⟩
  obtain ⟨ad', had⟩ := hAd
  have a5 : ad' 5 = H.size := by rw [had, if_pos rfl]
  have a50 : ∀ o, 50 ≤ o → o ≤ 55 → ad' o = H.size + 1 + (o - 50) := fun o h1 h2 => by rw [had, if_neg (by omega), if_pos ⟨h1, h2⟩]
  have aL : ∀ o ∈ L, ad' o = ad o := fun o ho => by
    rw [had, if_neg (show ¬ o = 5 from fun z => n5 (z ▸ ho)), if_neg (show ¬ (50 ≤ o ∧ o ≤ 55) from fun z => (hs o (Or.inr z)).1 ho)]
  have hsz : s.heap.size ≤ H.size := hH.2.1
  have key : gG D cy sh ad' (LT6 L) A s.heap (mTap mem) (tpS (T.setVm vm₁) (cy 6) (cy 3) 6).heap locs := by
    refine ⟨⟨⟨?_, ?_⟩, ?_⟩, ⟨?_, ?_, ?_, hH.2.2.2⟩, mTap_Z hZ, mTap_Cl hCl hZ hs⟩
    · have hn : ∀ o, 50 ≤ o → o ≤ 55 → o ∉ L := fun o h1 h2 => (hs o (Or.inr ⟨h1, h2⟩)).1
      have g50 := hn 50 (by decide) (by decide)
      have g51 := hn 51 (by decide) (by decide)
      have g52 := hn 52 (by decide) (by decide)
      have g53 := hn 53 (by decide) (by decide)
      have g54 := hn 54 (by decide) (by decide)
      have g55 := hn 55 (by decide) (by decide)
      unfold LT6
      simp only [List.nodup_cons, List.mem_cons, n5, g50, g51, g52, g53, g54, g55, hF.1.1]
      decide
    · intro a ha b hb hab
      rcases LT6_m.mp ha with ha | ha | ha <;> rcases LT6_m.mp hb with hb | hb | hb
      · rw [ha, hb]
      · rw [ha, a5, a50 b hb.1 hb.2] at hab; omega
      · rw [ha, a5, aL b hb] at hab; have := hlt b hb; omega
      · rw [hb, a5, a50 a ha.1 ha.2] at hab; omega
      · rw [a50 a ha.1 ha.2, a50 b hb.1 hb.2] at hab; omega
      · rw [a50 a ha.1 ha.2, aL b hb] at hab; have := hlt b hb; omega
      · rw [hb, a5, aL a ha] at hab; have := hlt a ha; omega
      · rw [aL a ha, a50 b hb.1 hb.2] at hab; have := hlt a ha; omega
      · rw [aL a ha, aL b hb] at hab; exact hF.1.2 a ha b hb hab
    · intro o ho
      rcases LT6_m.mp ho with h | h | h
      · rw [h, a5]; exact hA _ hsz
      · rw [a50 o h.1 h.2]; exact hA _ (by omega)
      · rw [aL o h]; exact hF.2 o h
    · rw [gP_iff]
      intro o ho
      rcases LT6_m.mp ho with h | h | h
      · subst h
        rw [h5, a5]
        show _ = some (vp_cell (cy 6) (6, _))
        refine f2.trans ?_
        rw [tpO, vp_cell_q]
        refine congrArg some (arr_eq (fun k hk => ?_))
        rw [if_pos hk, show gR (mTap mem) 5 k = some (50 + k) from if_pos ⟨rfl, hk⟩]
        show Value.ref (H.size + 1 + k) = Value.ref (ad' (50 + k))
        rw [a50 (50 + k) (by omega) (by omega), show 50 + k - 50 = k by omega]
      · rw [hT o h.1 h.2, a50 o h.1 h.2]
        show _ = some (vp_cell (cy 3) (60, .inr (.inl (gJ (mTap mem) o))))
        refine (fi (o - 50) (by omega)).trans ?_
        have hz := hZ o (hs o (Or.inr h)).1
        rw [show gJ (mTap mem) o = fun _ => 0 from funext fun k => (hz k).2.1]
        rfl
      · have h5' : o ≠ 5 := fun z => n5 (z ▸ h)
        have e0 : gCell cy ad' (mTap mem) o (sh o) = gCell cy ad mem o (sh o) := by
          have e1 : gCell cy ad' (mTap mem) o (sh o) = gCell cy ad' mem o (sh o) := by
            have er : ∀ j, gR (mTap mem) o j = gR mem o j := fun j => mTap_R h5'
            obtain ⟨t, n, fs⟩ := sh o
            match t with
            | 0 =>
              have e2 : ∀ j cd, gVal ad' (mTap mem) o j cd = gVal ad' mem o j cd := by
                intro j cd
                match cd with
                | 0 => rfl
                | 1 => simp only [gVal, er]
                | cd + 2 => rfl
              simp only [gCell, gFs, e2]
            | 1 => rfl
            | 2 => rfl
            | 3 => rfl
            | 4 => rfl
            | t + 5 => simp only [gCell, er]
          rw [e1]
          exact gCell_ad (fun k b hb => aL b ((hCl o h).1 k b hb)) (fun cd hc => aL cd ((hCl o h).2 cd hc))
        rw [e0, aL o h]
        exact (gP_iff.mp hH.1 o h).kept (fo _ (hlt o h))
    · rw [f1]; omega
    · intro q h1 h2
      rw [fo q (Nat.lt_of_lt_of_le h1 hsz)]
      exact hH.2.2.1 q h1 h2
  obtain ⟨t, a1, b1⟩ := kk ad' _ H.size aL a5 key _ rfl X1
  refine ⟨t, step t ?_, b1⟩
  rw [hT0]
  exact a1
end NM
