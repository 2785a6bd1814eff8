/-! what lies outside the world doesn't count -/
def cleanM (L : List Nat) (x : gMem) : gMem := (fun o k => if o ∈ L then x.1 o k else 0, (fun o k => if o ∈ L then x.2.1 o k else 0, fun o k => if o ∈ L then x.2.2 o k else none))
section CL
variable {L : List Nat} {W : Nat → Nat} {N : Nat → List cls} {x m : gMem}
theorem cl_I {o : Nat} (h : o ∈ L) (k : Nat) : gI (cleanM L x) o k = gI x o k := if_pos h
theorem cl_J {o : Nat} (h : o ∈ L) (k : Nat) : gJ (cleanM L x) o k = gJ x o k := if_pos h
theorem cl_R {o : Nat} (h : o ∈ L) (k : Nat) : gR (cleanM L x) o k = gR x o k := if_pos h
theorem cl_Z : gZ L (cleanM L x) := fun o ho k => ⟨if_neg ho, if_neg ho, if_neg ho⟩
def SC (L : List Nat) : Prop := ∀ o ∈ L, ∀ c : Nat, c + 2 ∈ (shX o).2.2 → c ∈ L
theorem cl_Cl (hq : QR L x) (hs : SC L) : gCl shX L (cleanM L x) := fun o ho => ⟨fun k b hb => by rw [cl_R ho] at hb; exact hq o k b hb, hs o ho⟩
theorem cl_W {cy : Nat → ClassId} {sh : Nat → gShp} {ad : Nat → Nat} : gW cy sh ad L (cleanM L x) = gW cy sh ad L x := by
  refine List.map_congr_left (fun o ho => ?_)
  have e1 : gI (cleanM L x) o = gI x o := funext (cl_I ho)
  have e2 : gJ (cleanM L x) o = gJ x o := funext (cl_J ho)
  have e3 : ∀ j, gR (cleanM L x) o j = gR x o j := cl_R ho
  have e4 : ∀ j c, gVal ad (cleanM L x) o j c = gVal ad x o j c := by
    intro j c
    match c with
    | 0 => simp only [gVal, e1]
    | 1 => simp only [gVal, e3]
    | c + 2 => rfl
  have e5 : gCell cy ad (cleanM L x) o (sh o) = gCell cy ad x o (sh o) := by
    obtain ⟨t, n, fs⟩ := sh o
    match t with
    | 0 => simp only [gCell, gFs, e4]
    | 1 => simp only [gCell, e1]
    | 2 => simp only [gCell, e1]
    | 3 => simp only [gCell, e1]
    | 4 => simp only [gCell, e2]
    | t + 5 => simp only [gCell, e3]
  rw [e5]
theorem lx_in : ∀ o, o < 90 → (o ≤ 6 ∨ (10 ≤ o ∧ o ≤ 17) ∨ (20 ≤ o ∧ o ≤ 27) ∨ (30 ≤ o ∧ o ≤ 35) ∨ (50 ≤ o ∧ o ≤ 55) ∨ 60 ≤ o) → o ∈ LX0 := by decide
theorem Rel.cl (hL : ∀ o ∈ LX0, o ∈ L) (H : Rel L W N x m) : Rel L W N (cleanM L x) m := by
  have lx : ∀ o, o < 90 → (o ≤ 6 ∨ (10 ≤ o ∧ o ≤ 17) ∨ (20 ≤ o ∧ o ≤ 27) ∨ (30 ≤ o ∧ o ≤ 35) ∨ (50 ≤ o ∧ o ≤ 55) ∨ 60 ≤ o) → o ∈ L := fun o h1 h2 => hL _ (lx_in o h1 h2)
  obtain ⟨hO, ⟨n, hn, en, hK, hinj⟩, hA, hT, hN, hC, hX, hM, hI⟩ := H
  refine ⟨hO.fr (fun o k q => cl_I (lx o (by omega) (by omega)) k) (fun _ _ _ => rfl), ⟨n, hn, en, fun i hi => ?_, hinj⟩, ?_, hT.fr (fun o k q => cl_I (lx o (by omega) (by omega)) k) (fun k => cl_R (lx 5 (by omega) (by omega)) k) (fun o k p q => cl_J (lx o (by omega) (by omega)) k) (fun _ _ _ => rfl) (fun _ => rfl), hN.fr (fun o k q => cl_I (lx o (by omega) (by omega)) k) (fun k => cl_R (lx 2 (by omega) (by omega)) k) (fun _ _ _ => rfl), hC.fr (cl_R (lx 10 (by omega) (by omega)) _) rfl rfl, hX.fr (fun o k q => cl_I (lx o (by omega) (by omega)) k) (fun _ _ _ => rfl), hM.fr (cl_I (lx 0 (by omega) (by omega)) _) rfl rfl, ?_⟩
  · obtain ⟨g1, g2, g3, g4, g5, g6, g7, g8, g9⟩ := hK i hi
    have hw := g1.2.2.2.1
    rw [cl_I hw, cl_I hw, cl_I hw, cl_R (lx 1 (by omega) (by omega))]
    refine ⟨g1, g2, g3, g4, g5, g6, g7, g8, fun j hj => ⟨(g9 j hj).1, fun h6 => ?_⟩⟩
    rw [cl_I (g1.2.2.2.2.2 h6).1]
    exact (g9 j hj).2 h6
  · rcases hA with ⟨a1, a2⟩ | ⟨w, j, a1, a2, a3, a4, a5, a6⟩
    · exact Or.inl ⟨(cl_R (lx 0 (by omega) (by omega)) _).trans a1, a2⟩
    · refine Or.inr ⟨w, j, (cl_R (lx 0 (by omega) (by omega)) _).trans a1, a2, (cl_I a2.2.2.2.1 _).trans a3, a4, a5, fun k k1 k2 => ?_⟩
      rw [cl_I a2.2.2.2.2.1]
      exact a6 k k1 k2
  · intro h47
    obtain ⟨ni, n2, b1, b2, b3, b4, b5, b6, b7⟩ := hI h47
    obtain rfl : n = n2 := nI_inj (by omega) (by omega) (en.symm.trans b2)
    refine ⟨ni, n, b1, b2, b3, b4, b5.fi (fun o k q => cl_I (lx o (by omega) (by omega)) k) (fun _ _ _ => rfl), fun i hi => ?_, b7.fr (cl_R (lx 20 (by omega) (by omega)) _) rfl rfl⟩
    have g1 := (hK i (by omega)).1
    obtain ⟨c1, c2, c3, c4, c5, c6⟩ := b6 i hi
    rw [cl_I g1.2.2.2.1, cl_I g1.2.2.2.1]
    refine ⟨c1, c2, c3, c4, c5, fun j hj => ⟨(c6 j hj).1, fun h6 => ?_⟩⟩
    rw [cl_I (g1.2.2.2.2.2 h6).2]
    exact (c6 j hj).2 h6
end CL
