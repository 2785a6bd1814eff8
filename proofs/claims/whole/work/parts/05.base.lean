/-! generic memory: objects by number, a number's shape by 'sh', its address by 'ad' -/
abbrev gMem : Type := (Nat → Nat → Int32) × ((Nat → Nat → Int64) × (Nat → Nat → Option Nat))
def gI (m : gMem) (o k : Nat) : Int32 := m.1 o k
def gJ (m : gMem) (o k : Nat) : Int64 := m.2.1 o k
def gR (m : gMem) (o k : Nat) : Option Nat := m.2.2 o k
def gsI (m : gMem) (o k : Nat) (v : Int32) : gMem := (fun o' k' => if o' = o ∧ k' = k then v else m.1 o' k', m.2)
def gsJ (m : gMem) (o k : Nat) (v : Int64) : gMem := (m.1, (fun o' k' => if o' = o ∧ k' = k then v else m.2.1 o' k', m.2.2))
def gsR (m : gMem) (o k : Nat) (v : Option Nat) : gMem := (m.1, (m.2.1, fun o' k' => if o' = o ∧ k' = k then v else m.2.2 o' k'))
theorem gI_sI (m : gMem) (o k : Nat) (v : Int32) (o' k' : Nat) : gI (gsI m o k v) o' k' = if o' = o ∧ k' = k then v else gI m o' k' := rfl
theorem gJ_sI (m : gMem) (o k : Nat) (v : Int32) (o' k' : Nat) : gJ (gsI m o k v) o' k' = gJ m o' k' := rfl
theorem gR_sI (m : gMem) (o k : Nat) (v : Int32) (o' k' : Nat) : gR (gsI m o k v) o' k' = gR m o' k' := rfl
theorem gI_sJ (m : gMem) (o k : Nat) (v : Int64) (o' k' : Nat) : gI (gsJ m o k v) o' k' = gI m o' k' := rfl
theorem gJ_sJ (m : gMem) (o k : Nat) (v : Int64) (o' k' : Nat) : gJ (gsJ m o k v) o' k' = if o' = o ∧ k' = k then v else gJ m o' k' := rfl
theorem gR_sJ (m : gMem) (o k : Nat) (v : Int64) (o' k' : Nat) : gR (gsJ m o k v) o' k' = gR m o' k' := rfl
theorem gI_sR (m : gMem) (o k : Nat) (v : Option Nat) (o' k' : Nat) : gI (gsR m o k v) o' k' = gI m o' k' := rfl
theorem gJ_sR (m : gMem) (o k : Nat) (v : Option Nat) (o' k' : Nat) : gJ (gsR m o k v) o' k' = gJ m o' k' := rfl
theorem gR_sR (m : gMem) (o k : Nat) (v : Option Nat) (o' k' : Nat) : gR (gsR m o k v) o' k' = if o' = o ∧ k' = k then v else gR m o' k' := rfl
/-- a shape: 0 an object (class, fields' codes), else an array (its sort, its length) -/
abbrev gShp : Type := Nat × (Nat × List Nat)
def gVal (ad : Nat → Nat) (m : gMem) (o k : Nat) : Nat → Value
  | 0 => .int (gI m o k)
  | 1 => va_rf ((gR m o k).map ad)
  | c + 2 => .ref (ad c)
def gFs (ad : Nat → Nat) (m : gMem) (o : Nat) (fs : List Nat) : List Value := (List.range fs.length).map (fun k => gVal ad m o k (fs.getD k 0))
def gCell (cy : Nat → ClassId) (ad : Nat → Nat) (m : gMem) (o : Nat) (sp : gShp) : va_E :=
  match sp.1 with
  | 0 => .inr (sp.2.1, gFs ad m o sp.2.2)
  | 1 => .inl (cy 0, sp.2.1, .inl (gI m o))
  | 2 => .inl (cy 1, sp.2.1, .inl (gI m o))
  | 3 => .inl (cy 2, sp.2.1, .inl (gI m o))
  | 4 => .inl (cy 3, sp.2.1, .inr (.inl (gJ m o)))
  | t + 5 => .inl (cy (t + 4), sp.2.1, .inr (.inr (.inr (.inr (fun k => (gR m o k).map ad)))))
def gTys (cy : Nat → ClassId) : List (ClassId × FieldType) := [(cy 0, .int), (cy 1, .byte), (cy 2, .boolean), (cy 3, .long), (cy 4, .object "OnTiptoe$Night"), (cy 5, .object "OnTiptoe$Walker"), (cy 6, .array .long)]
def gW (cy : Nat → ClassId) (sh : Nat → gShp) (ad : Nat → Nat) (L : List Nat) (m : gMem) : va_W := L.map (fun o => (ad o, gCell cy ad m o (sh o)))
def gOk (ad : Nat → Nat) (L : List Nat) : Prop := L.Nodup ∧ ∀ a ∈ L, ∀ b ∈ L, ad a = ad b → a = b
def gA (ad : Nat → Nat) (L : List Nat) : Nat → Prop := fun q => ∃ o ∈ L, q = ad o
theorem gW_at {cy : Nat → ClassId} {sh : Nat → gShp} {ad : Nat → Nat} {L : List Nat} {m : gMem} {o : Nat} (h : o ∈ L) : ∃ q : Nat, L[q]? = some o ∧ (gW cy sh ad L m)[q]? = some (ad o, gCell cy ad m o (sh o)) := by
  obtain ⟨q, hq⟩ := List.getElem?_of_mem h
  exact ⟨q, hq, by simp [gW, hq]⟩
theorem gW_of {cy : Nat → ClassId} {sh : Nat → gShp} {ad : Nat → Nat} {L : List Nat} {m : gMem} {k : Nat} {x : Nat × va_E} (h : (gW cy sh ad L m)[k]? = some x) : ∃ o : Nat, L[k]? = some o ∧ x = (ad o, gCell cy ad m o (sh o)) := by
  simp only [gW, List.getElem?_map, Option.map_eq_some_iff] at h
  obtain ⟨o, h1, h2⟩ := h
  exact ⟨o, h1, h2.symm⟩
theorem nd_ix {L : List Nat} (h : L.Nodup) {i j o : Nat} (hi : L[i]? = some o) (hj : L[j]? = some o) : i = j := by
  induction L generalizing i j with
  | nil => simp at hi
  | cons a l ih =>
    obtain ⟨h1, h2⟩ := List.nodup_cons.mp h
    cases i with
    | zero =>
      cases j with
      | zero => rfl
      | succ j =>
        rw [List.getElem?_cons_zero] at hi
        rw [List.getElem?_cons_succ] at hj
        cases hi
        exact absurd (List.mem_of_getElem? hj) h1
    | succ i =>
      cases j with
      | zero =>
        rw [List.getElem?_cons_zero] at hj
        rw [List.getElem?_cons_succ] at hi
        cases hj
        exact absurd (List.mem_of_getElem? hi) h1
      | succ j =>
        rw [List.getElem?_cons_succ] at hi hj
        rw [ih h2 hi hj]
theorem gW_set {cy : Nat → ClassId} {sh : Nat → gShp} {ad : Nat → Nat} {L : List Nat} {m m' : gMem} {o q : Nat} {e : va_E} (hn : L.Nodup) (hq : L[q]? = some o) (he : gCell cy ad m' o (sh o) = e) (hoth : ∀ b : Nat, b ≠ o → gCell cy ad m' b (sh b) = gCell cy ad m b (sh b)) : (gW cy sh ad L m).set q (ad o, e) = gW cy sh ad L m' := by
  subst he
  apply List.ext_getElem?
  intro i
  have hl := (List.getElem?_eq_some_iff.mp hq).1
  by_cases hi : i = q
  · subst hi
    rw [List.getElem?_set_self (by simpa [gW] using hl)]
    simp [gW, hq]
  · rw [List.getElem?_set_ne (Ne.symm hi)]
    cases hb : L[i]? with
    | none => simp [gW, hb]
    | some b =>
      have hne : b ≠ o := fun z => hi (nd_ix hn (by rw [hb, z]) hq)
      simp [gW, hb, hoth b hne]
theorem gW_D {cy : Nat → ClassId} {sh : Nat → gShp} {ad : Nat → Nat} {L : List Nat} {m : gMem} {A : Nat → Prop} (hk : gOk ad L) (hA : ∀ o ∈ L, A (ad o)) : va_D A (gW cy sh ad L m) := by
  refine ⟨fun i j x y hi hj hxy => ?_, fun k x hx => ?_⟩
  · obtain ⟨a, ha, rfl⟩ := gW_of hi
    obtain ⟨b, hb, rfl⟩ := gW_of hj
    have hab := hk.2 a (List.mem_of_getElem? ha) b (List.mem_of_getElem? hb) hxy
    subst hab
    exact nd_ix hk.1 ha hb
  · obtain ⟨a, ha, rfl⟩ := gW_of hx
    exact hA a (List.mem_of_getElem? ha)
theorem gCell_sI {cy : Nat → ClassId} {ad : Nat → Nat} {m : gMem} {o k : Nat} {v : Int32} {b : Nat} {sp : gShp} (h : b ≠ o) : gCell cy ad (gsI m o k v) b sp = gCell cy ad m b sp := by
  have e1 : gI (gsI m o k v) b = gI m b := by funext j; simp [gI_sI, h]
  have e2 : ∀ j c, gVal ad (gsI m o k v) b j c = gVal ad m b j c := by
    intro j c
    match c with
    | 0 => simp [gVal, e1]
    | 1 => simp [gVal, gR_sI]
    | c + 2 => rfl
  obtain ⟨t, n, fs⟩ := sp
  match t with
  | 0 => simp [gCell, gFs, e2]
  | 1 => simp [gCell, e1]
  | 2 => simp [gCell, e1]
  | 3 => simp [gCell, e1]
  | 4 => rfl
  | t + 5 => rfl
theorem gCell_sJ {cy : Nat → ClassId} {ad : Nat → Nat} {m : gMem} {o k : Nat} {v : Int64} {b : Nat} {sp : gShp} (h : b ≠ o) : gCell cy ad (gsJ m o k v) b sp = gCell cy ad m b sp := by
  have e1 : gJ (gsJ m o k v) b = gJ m b := by funext j; simp [gJ_sJ, h]
  obtain ⟨t, n, fs⟩ := sp
  match t with
  | 0 => rfl
  | 1 => rfl
  | 2 => rfl
  | 3 => rfl
  | 4 => simp [gCell, e1]
  | t + 5 => rfl
theorem gCell_sR {cy : Nat → ClassId} {ad : Nat → Nat} {m : gMem} {o k : Nat} {v : Option Nat} {b : Nat} {sp : gShp} (h : b ≠ o) : gCell cy ad (gsR m o k v) b sp = gCell cy ad m b sp := by
  have e1 : ∀ j, gR (gsR m o k v) b j = gR m b j := by intro j; simp [gR_sR, h]
  have e2 : ∀ j c, gVal ad (gsR m o k v) b j c = gVal ad m b j c := by
    intro j c
    match c with
    | 0 => simp [gVal, gI_sR]
    | 1 => simp [gVal, e1]
    | c + 2 => rfl
  obtain ⟨t, n, fs⟩ := sp
  match t with
  | 0 => simp [gCell, gFs, e2]
  | 1 => rfl
  | 2 => rfl
  | 3 => rfl
  | 4 => rfl
  | t + 5 => simp [gCell, e1]
theorem gFs_at {ad : Nat → Nat} {m : gMem} {o k c : Nat} {fs : List Nat} (h : fs[k]? = some c) : (gFs ad m o fs)[k]? = some (gVal ad m o k c) := by
  have hl := (List.getElem?_eq_some_iff.mp h).1
  have h2 := (List.getElem?_eq_some_iff.mp h).2
  simp [gFs, hl, List.getD, h2]
theorem gFs_len {ad : Nat → Nat} {m : gMem} {o : Nat} {fs : List Nat} : (gFs ad m o fs).length = fs.length := by simp [gFs]
theorem gFs_sI {ad : Nat → Nat} {m : gMem} {o k : Nat} {fs : List Nat} (h : fs[k]? = some 0) (v : Int32) : (gFs ad m o fs).set k (.int v) = gFs ad (gsI m o k v) o fs := by
  have hl := (List.getElem?_eq_some_iff.mp h).1
  apply List.ext_getElem?
  intro i
  by_cases hi : i = k
  · subst hi
    rw [List.getElem?_set_self (by rw [gFs_len]; exact hl), gFs_at h]
    simp [gVal, gI_sI]
  · rw [List.getElem?_set_ne (Ne.symm hi)]
    by_cases hlt : i < fs.length
    · obtain ⟨c, hc⟩ : ∃ c, fs[i]? = some c := ⟨_, List.getElem?_eq_getElem hlt⟩
      rw [gFs_at hc, gFs_at hc]
      match c with
      | 0 => simp [gVal, gI_sI, hi]
      | 1 => simp [gVal, gR_sI]
      | c + 2 => rfl
    · rw [List.getElem?_eq_none (by rw [gFs_len]; omega), List.getElem?_eq_none (by rw [gFs_len]; omega)]
theorem gFs_sR {ad : Nat → Nat} {m : gMem} {o k : Nat} {fs : List Nat} (h : fs[k]? = some 1) (v : Option Nat) : (gFs ad m o fs).set k (va_rf (v.map ad)) = gFs ad (gsR m o k v) o fs := by
  have hl := (List.getElem?_eq_some_iff.mp h).1
  apply List.ext_getElem?
  intro i
  by_cases hi : i = k
  · subst hi
    rw [List.getElem?_set_self (by rw [gFs_len]; exact hl), gFs_at h]
    simp [gVal, gR_sR]
  · rw [List.getElem?_set_ne (Ne.symm hi)]
    by_cases hlt : i < fs.length
    · obtain ⟨c, hc⟩ : ∃ c, fs[i]? = some c := ⟨_, List.getElem?_eq_getElem hlt⟩
      rw [gFs_at hc, gFs_at hc]
      match c with
      | 0 => simp [gVal, gI_sR]
      | 1 => simp [gVal, gR_sR, hi]
      | c + 2 => rfl
    · rw [List.getElem?_eq_none (by rw [gFs_len]; omega), List.getElem?_eq_none (by rw [gFs_len]; omega)]
/-- the printed functions' words: a checked read, a choice, a name, a join, a chain of calls -/
abbrev okI (i : Int32) (n : Nat) : Prop := 0 ≤ i.toInt ∧ i.toInt < (n : Int)
abbrev ix (i : Int32) : Nat := i.toNatClampNeg
abbrev isB (x : Int32) : Prop := x = 0 ∨ x = 1
def lt1 {α β : Type} (a : α) (k : α → β) : β := k a
def jn {α β : Type} (a : α) (k : α → β) : β := k a
def bd {α β : Type} (a : Option α) (k : α → Option β) : Option β := match a with | none => none | some x => k x
def oc {α β : Type} (a : Option α) (n : β) (k : α → β) : β := match a with | none => n | some x => k x
theorem lt1_e {α β : Type} {a : α} {k : α → β} {r : β} (h : lt1 a k = r) : k a = r := h
theorem jn_e {α β : Type} {a : α} {k : α → β} {r : β} (h : jn a k = r) : ∃ j, j = a ∧ k j = r := ⟨a, rfl, h⟩
theorem bd_e {α β : Type} {a : Option α} {k : α → Option β} {r : β} (h : bd a k = some r) : ∃ x, a = some x ∧ k x = some r := by
  cases a with
  | none => cases h
  | some x => exact ⟨x, rfl, h⟩
theorem ap0 {R : Type} {f g : R} {r : R} (e : f = g) (h : f = r) : g = r := e ▸ h
theorem ap1 {A R : Type} {f g : A → R} {a : A} {r : R} (e : f = g) (h : f a = r) : g a = r := e ▸ h
theorem ap2 {A B R : Type} {f g : A → B → R} {a : A} {b : B} {r : R} (e : f = g) (h : f a b = r) : g a b = r := e ▸ h
theorem ap3 {A B C R : Type} {f g : A → B → C → R} {a : A} {b : B} {c : C} {r : R} (e : f = g) (h : f a b c = r) : g a b c = r := e ▸ h
theorem ap4 {A B C D R : Type} {f g : A → B → C → D → R} {a : A} {b : B} {c : C} {d : D} {r : R} (e : f = g) (h : f a b c d = r) : g a b c d = r := e ▸ h
theorem ap5 {A B C D E R : Type} {f g : A → B → C → D → E → R} {a : A} {b : B} {c : C} {d : D} {x : E} {r : R} (e : f = g) (h : f a b c d x = r) : g a b c d x = r := e ▸ h
theorem ap6 {A B C D E F R : Type} {f g : A → B → C → D → E → F → R} {a : A} {b : B} {c : C} {d : D} {x : E} {y : F} {r : R} (e : f = g) (h : f a b c d x y = r) : g a b c d x y = r := e ▸ h
theorem ap7 {A B C D E F G R : Type} {f g : A → B → C → D → E → F → G → R} {a : A} {b : B} {c : C} {d : D} {x : E} {y : F} {z : G} {r : R} (e : f = g) (h : f a b c d x y z = r) : g a b c d x y z = r := e ▸ h
def lq1 {A R : Type} (st : (A → Option R) → A → Option R) : Nat → A → Option R
  | 0, _ => none
  | n + 1, a => st (lq1 st n) a
def lq2 {A B R : Type} (st : (A → B → Option R) → A → B → Option R) : Nat → A → B → Option R
  | 0, _, _ => none
  | n + 1, a, b => st (lq2 st n) a b
def lq3 {A B C R : Type} (st : (A → B → C → Option R) → A → B → C → Option R) : Nat → A → B → C → Option R
  | 0, _, _, _ => none
  | n + 1, a, b, c => st (lq3 st n) a b c
def lq4 {A B C D R : Type} (st : (A → B → C → D → Option R) → A → B → C → D → Option R) : Nat → A → B → C → D → Option R
  | 0, _, _, _, _ => none
  | n + 1, a, b, c, d => st (lq4 st n) a b c d
def lq5 {A B C D E R : Type} (st : (A → B → C → D → E → Option R) → A → B → C → D → E → Option R) : Nat → A → B → C → D → E → Option R
  | 0, _, _, _, _, _ => none
  | n + 1, a, b, c, d, x => st (lq5 st n) a b c d x
theorem lq1_0 {A R : Type} {st : (A → Option R) → A → Option R} {a : A} {r : R} {P : Prop} (h : lq1 st 0 a = some r) : P := by cases h
theorem lq2_0 {A B R : Type} {st : (A → B → Option R) → A → B → Option R} {a : A} {b : B} {r : R} {P : Prop} (h : lq2 st 0 a b = some r) : P := by cases h
theorem lq3_0 {A B C R : Type} {st : (A → B → C → Option R) → A → B → C → Option R} {a : A} {b : B} {c : C} {r : R} {P : Prop} (h : lq3 st 0 a b c = some r) : P := by cases h
theorem lq4_0 {A B C D R : Type} {st : (A → B → C → D → Option R) → A → B → C → D → Option R} {a : A} {b : B} {c : C} {d : D} {r : R} {P : Prop} (h : lq4 st 0 a b c d = some r) : P := by cases h
theorem lq5_0 {A B C D E R : Type} {st : (A → B → C → D → E → Option R) → A → B → C → D → E → Option R} {a : A} {b : B} {c : C} {d : D} {x : E} {r : R} {P : Prop} (h : lq5 st 0 a b c d x = some r) : P := by cases h
theorem lq1_s {A R : Type} {st : (A → Option R) → A → Option R} {n : Nat} {a : A} {r : Option R} (h : lq1 st (n + 1) a = r) : ∃ f, f = lq1 st n ∧ st f a = r := ⟨_, rfl, h⟩
theorem lq2_s {A B R : Type} {st : (A → B → Option R) → A → B → Option R} {n : Nat} {a : A} {b : B} {r : Option R} (h : lq2 st (n + 1) a b = r) : ∃ f, f = lq2 st n ∧ st f a b = r := ⟨_, rfl, h⟩
theorem lq3_s {A B C R : Type} {st : (A → B → C → Option R) → A → B → C → Option R} {n : Nat} {a : A} {b : B} {c : C} {r : Option R} (h : lq3 st (n + 1) a b c = r) : ∃ f, f = lq3 st n ∧ st f a b c = r := ⟨_, rfl, h⟩
theorem lq4_s {A B C D R : Type} {st : (A → B → C → D → Option R) → A → B → C → D → Option R} {n : Nat} {a : A} {b : B} {c : C} {d : D} {r : Option R} (h : lq4 st (n + 1) a b c d = r) : ∃ f, f = lq4 st n ∧ st f a b c d = r := ⟨_, rfl, h⟩
theorem lq5_s {A B C D E R : Type} {st : (A → B → C → D → E → Option R) → A → B → C → D → E → Option R} {n : Nat} {a : A} {b : B} {c : C} {d : D} {x : E} {r : Option R} (h : lq5 st (n + 1) a b c d x = r) : ∃ f, f = lq5 st n ∧ st f a b c d x = r := ⟨_, rfl, h⟩
/-- what the tables say beside the words: nest mates, casts -/
def gNest : List (String × Nat × MethodName × String) := [(RX2, 92, yX11_isBoard, RX11), (RX10, 49, yX11_isBoard, RX11), (RX10, 78, yX11_areBeside, RX11), (RX10, 93, yX11_stirsBehind, RX11), (RX10, 108, yX11_boardBeside, RX11)]
def gN (Y N : List (String × String)) (U : State) : Prop := (∀ q ∈ gNest, va_Nw (.methodLinkNest q.1 q.2.1 q.2.2.1 q.2.2.2) U) ∧ (∀ q ∈ Y, va_Nw (.castable q.1 q.2) U) ∧ (∀ q ∈ N, va_Nc q.1 q.2 U)
theorem gN.warm {Y N : List (String × String)} {s U : State} (hW : s.WarmedH U.vm) (h : gN Y N s) : gN Y N U := ⟨fun q hq => va_Nw.warmM hW (h.1 q hq), fun q hq => va_Nw.warmC hW (h.2.1 q hq), fun q hq => (h.2.2 q hq).moved hW.alike⟩
