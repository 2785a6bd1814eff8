/-! where both begin -/
def LXF : List Nat := [89, 88, 87, 86, 85, 84, 83, 82, 81, 80, 79, 78, 77, 76, 75, 74, 73, 72, 71, 70, 69, 68, 67, 66, 65, 64, 63, 62, 61, 60, 6, 5, 50, 51, 52, 53, 54, 55, 4, 3, 35, 34, 33, 32, 31, 30, 2, 1, 27, 26, 25, 24, 23, 22, 21, 20, 17, 16, 15, 14, 13, 12, 11, 10, 0]
def LMF : List Nat := [39, 38, 37, 36, 35, 34, 33, 32, 31, 30, 29, 28, 27, 26, 25, 24, 23, 22, 21, 20, 19, 18, 17, 16, 15, 14, 13, 12, 11, 10, 9, 8, 7, 6, 5, 4, 3, 2, 1, 0]
abbrev xB : gMem := i_X11 gM0
abbrev mB : gMem := i_X12 gM0
theorem lxf_X0 : ∀ o ∈ LX0, o ∈ LXF := by decide +kernel
theorem lmf_M0 : ∀ o ∈ LM0, o ∈ LMF := by decide +kernel
theorem lxf_B : ∀ o ∈ LXF, o < 128 := by decide +kernel
theorem gM0_Z : gZ [0] gM0 := fun _ _ _ => ⟨rfl, rfl, rfl⟩
theorem gM0_X : gCl shK [0] gM0 := fun o ho => by
  obtain rfl := List.mem_singleton.mp ho
  exact ⟨fun k b hb => (by cases hb), fun c hc => absurd hc (nc2 (fs := (shK 0).2.2) (by decide) c)⟩
theorem gM0_M : gCl shMK [0] gM0 := fun o ho => by
  obtain rfl := List.mem_singleton.mp ho
  exact ⟨fun k b hb => (by cases hb), fun c hc => absurd hc (nc2 (fs := (shMK 0).2.2) (by decide) c)⟩
def okF (x : gMem) (sp : gShp) (o : Nat) : Bool := (List.range sp.2.2.length).all (fun k => match sp.2.2.getD k 0 with
  | c + 2 => gR x o k == some c
  | _ => true)
theorem okF_s {x : gMem} {sp : gShp} {o : Nat} (h : okF x sp o = true) : ∀ k c : Nat, sp.2.2[k]? = some (c + 2) → gR x o k = some c := by
  intro k c hk
  have hl := (List.getElem?_eq_some_iff.mp hk).1
  have h1 := List.all_eq_true.mp h k (List.mem_range.mpr hl)
  have e : sp.2.2.getD k 0 = c + 2 := by rw [List.getD_eq_getElem?_getD, hk]; rfl
  rw [e] at h1
  exact eq_of_beq h1
theorem okX : ∀ o ∈ LXF, okF xB (shX o) o = true := by decide +kernel
theorem okM : ∀ o ∈ LMF, okF mB (shM o) o = true := by decide +kernel
theorem scX0 : ∀ o ∈ LXF, (shX o).2.2.all (fun c => c < 2 || LXF.contains (c - 2)) = true := by decide +kernel
theorem scX1 : SC LXF := fun o ho c hc => by
  have h := List.all_eq_true.mp (scX0 o ho) _ hc
  rw [Bool.or_eq_true] at h
  rcases h with h | h
  · have := of_decide_eq_true h; omega
  · exact List.contains_iff_mem.mp h
theorem qrX : QR LXF xB := by
  obtain ⟨h1, h2⟩ := z_X11 gM0_Z gM0_X
  intro o k b hb
  by_cases ho : o ∈ LXF
  · exact (h2 o ho).1 k b hb
  · have := (h1 o ho k).2.2
    rw [this] at hb
    cases hb
theorem wX {cy : Nat → ClassId} {ad : Nat → Nat} : gW cy shX ad LXF xB = gW cy shK ad LXF xB := List.map_congr_left (fun o ho => by
  show (ad o, gCell cy ad xB o (shX o)) = (ad o, gCell cy ad xB o (opS0 (shX o)))
  rw [cell_op (fun _ => okF_s (okX o ho))])
theorem wM {cy : Nat → ClassId} {ad : Nat → Nat} : gW cy shM ad LMF mB = gW cy shMK ad LMF mB := List.map_congr_left (fun o ho => by
  show (ad o, gCell cy ad mB o (shM o)) = (ad o, gCell cy ad mB o (opS0 (shM o)))
  rw [cell_op (fun _ => okF_s (okM o ho))])
theorem ib1 : ∀ k, k < 12 → gI xB 11 k = gI mB 1 k ∧ gI mB 1 k = nI 3 := by decide +kernel
theorem ib2 : ∀ k, k < 12 → gI xB 12 k = gI mB 16 k ∧ gI mB 16 k = nI 0 := by decide +kernel
theorem ib3 : ∀ k, k < 6 → gI xB 13 k = gI mB 21 k ∧ gI mB 21 k = nI 0 := by decide +kernel
theorem ib4 : ∀ k, k < 6 → gI xB 14 k = gI mB 22 k ∧ gI mB 22 k = nI 0 := by decide +kernel
theorem ib5 : ∀ k, k < 6 → gI xB 15 k = gI mB 23 k ∧ gI mB 23 k = nI 0 := by decide +kernel
theorem ib6 : ∀ k, k < 12 → gI xB 16 k = gI mB 24 k ∧ gI mB 24 k = nI 0 := by decide +kernel
theorem ib7 : ∀ k, k < 6 → gR xB 5 k = some (50 + k) ∧ gI xB 3 k = gI mB 36 k ∧ gI xB 4 k = gI mB 37 k ∧ gI mB 36 k = -1 ∧ gI mB 37 k = nI 0 := by decide +kernel
theorem ib8 : ∀ g, g < 6 → gR xB 2 g = some (60 + 5 * g) := by decide +kernel
theorem ib9 : ∀ k, k < 100 → gI xB 31 k = gI mB 6 k ∧ gI mB 6 k = nI 0 := by decide +kernel
theorem ib10 : ∀ k, k < 13 → gI mB 14 k = nI (lett k) := by decide +kernel
theorem ibs : gI xB 10 1 = gI mB 0 3 ∧ gI xB 10 2 = gI mB 0 4 ∧ gI xB 10 3 = gI mB 0 0 ∧ gI xB 10 4 = gI mB 0 1 ∧ gI xB 10 5 = gI mB 0 2 ∧ gI xB 10 6 = gI mB 0 5 ∧ gI xB 10 8 = gI mB 0 30 ∧ gI xB 10 12 = gI mB 0 41 ∧ gI xB 10 14 = gI mB 0 45 := by decide +kernel
theorem ibv : gI mB 0 0 = nI 0 ∧ gI mB 0 1 = nI 0 ∧ gI mB 0 2 = nI 0 ∧ gI mB 0 3 = nI 0 ∧ gI mB 0 4 = nI 11 ∧ gI mB 0 5 = nI 0 ∧ gI mB 0 30 = nI 0 ∧ gI mB 0 41 = nI 0 ∧ gI mB 0 45 = nI 0 := by decide +kernel
theorem ibr : gR xB 0 8 = none ∧ gI mB 0 68 = nI 0 ∧ gI xB 0 5 = gI mB 0 11 ∧ gI mB 0 11 = nI 0 ∧ gI mB 0 12 = -1 ∧ gR xB 10 15 = none ∧ gI mB 0 13 = nI 0 ∧ gI xB 30 1 = gI mB 0 13 ∧ gI mB 0 29 = nI 0 ∧ gI mB 0 47 = nI 0 ∧ gI xB 0 2 = gI mB 0 47 := by decide +kernel
theorem relB : Rel LXF (fun _ => 0) (fun _ => []) xB mB := by
  obtain ⟨v1, v2, v3, v4, v5, v6, v7, v8, v9⟩ := ibv
  obtain ⟨r1, r2, r3, r4, r5, r6, r7, r8, r9, r10, r11⟩ := ibr
  refine ⟨⟨ibs, ⟨fun k hk => (ib1 k hk).1, fun k hk => (ib2 k hk).1, fun k hk => (ib3 k hk).1, fun k hk => (ib4 k hk).1, fun k hk => (ib5 k hk).1, fun k hk => (ib6 k hk).1⟩, ⟨0, by decide, v1⟩, ⟨0, by decide, v2⟩, ⟨0, by decide, v3⟩, ⟨0, by decide, v4⟩, ⟨11, by decide, v5⟩, ⟨0, by decide, v6⟩, ⟨0, by decide, v7⟩, ⟨0, by decide, v8⟩, ⟨0, by decide, v9⟩, fun k hk => ⟨3, by decide, (ib1 k hk).2⟩, fun k hk => Or.inr ⟨0, by decide, (ib2 k hk).2⟩, fun k hk => ⟨0, by decide, (ib3 k hk).2⟩, fun k hk => ⟨0, by decide, (ib4 k hk).2⟩, fun k hk => ⟨0, by decide, (ib5 k hk).2⟩, fun k hk => ⟨0, by decide, (ib6 k hk).2⟩⟩, ⟨0, by decide, v1, fun i hi => absurd hi (Nat.not_lt_zero i), fun i j hi => absurd hi (Nat.not_lt_zero i)⟩, Or.inl ⟨r1, r2⟩, fun t ht => ⟨(ib7 t ht).1, (ib7 t ht).2.1, (ib7 t ht).2.2.1, Or.inl (ib7 t ht).2.2.2⟩, ⟨r3, ib8, 0, by decide, r4, fun g hg => absurd hg (Nat.not_lt_zero g)⟩, Or.inl ⟨r5, r6⟩, ⟨⟨0, by decide, r7⟩, r8, fun k hk => ⟨(ib9 k hk).1, ⟨0, by decide, (ib9 k hk).2⟩⟩, ib10⟩, ⟨r9, ⟨0, by decide, r10⟩, r11⟩, fun h => ?_⟩
  rw [r10] at h
  exact absurd h (by decide)
