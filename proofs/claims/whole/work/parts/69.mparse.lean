/-! THE TEXT: the reference reads as the class -/
def MNo (B P fuel : Nat) (w : Int32) (m : gMem) (q : Nat) : Prop := ∃ m', lq2 (s_X12_takesE_22 (nI P)) fuel w m = some (0, m') ∧ gI m' 0 14 = nI q ∧ okE B P m m'
def MYe (B P len k fuel : Nat) (w : Int32) (m : gMem) (p q : Nat) (st : List Nat) (C : List tok) : Prop := ∃ U f' m' cs', fuel + p ≤ f' + q ∧ lq2 (s_X12_takesE_22 (nI P)) fuel w m = lq2 (s_X12_takesE_22 (nI P)) f' 0 m' ∧ (∀ c ∈ U, OPS k c) ∧ RS B len m' q cs' (U ++ st) ∧ cs' ++ U.map tkS = C ∧ okE B P m m'
def MM (tx : Nat → Nat) (len B P k d p : Nat) (r : Option (List tok)) (q : Nat) : Prop :=
  (k < 3 → ∀ fuel m cs j st, len + 1 < fuel + p → (k < 2 → j = 0) → tp st ≠ 33 → ¬ OPS k (tp st) → opn (List.replicate j 33 ++ st) = d → TXM m tx len → RS B len m p cs (List.replicate j 33 ++ st) → (r = none → MNo B P fuel 1 m q) ∧ ∀ l, r = some l → MYe B P len k fuel 1 m p q st (cs ++ l ++ List.replicate j notT)) ∧
  (∀ k', k = k' + 3 → ∀ fuel m cs U st, len + 1 < fuel + p → (∀ c ∈ U, OPS k' c) → tp st ≠ 33 → ¬ OPS k' (tp st) → opn st = d → TXM m tx len → RS B len m p cs (U ++ st) → (r = none → MNo B P fuel 0 m q) ∧ ∀ l, r = some l → MYe B P len k' fuel 0 m p q st (cs ++ U.map tkS ++ l))
section R1
variable {B P len : Nat} {tx : Nat → Nat}
theorem MNo.pre {f f1 q : Nat} {w w1 : Int32} {m m1 : gMem} (e : lq2 (s_X12_takesE_22 (nI P)) f w m = lq2 (s_X12_takesE_22 (nI P)) f1 w1 m1) (h : okE B P m m1) (h2 : MNo B P f1 w1 m1 q) : MNo B P f w m q := by
  obtain ⟨m', a, b, c⟩ := h2
  exact ⟨m', e.trans a, b, h.trans c⟩
theorem MYe.pre {k f f1 p p1 q : Nat} {w w1 : Int32} {m m1 : gMem} {st : List Nat} {C : List tok} (e : lq2 (s_X12_takesE_22 (nI P)) f w m = lq2 (s_X12_takesE_22 (nI P)) f1 w1 m1) (h : okE B P m m1) (hf : f + p ≤ f1 + p1) (h2 : MYe B P len k f1 w1 m1 p1 q st C) : MYe B P len k f w m p q st C := by
  obtain ⟨U, f', m', cs', a, b, c, d, g, i⟩ := h2
  exact ⟨U, f', m', cs', by omega, e.trans b, c, d, g, h.trans i⟩
theorem OPS_up {k c : Nat} (h : OPS (k + 1) c) : OPS k c := by unfold OPS at *; omega
theorem OPS_op {k : Nat} (hk : k < 2) : ¬ OPS (k + 1) (opS k) ∧ opS k ≠ 33 ∧ OPS k (opS k) ∧ tkS (opS k) = opT k ∧ opn [opS k] = 0 := by
  by_cases q : k = 0
  · subst q; exact ⟨by unfold OPS; decide, by decide, by unfold OPS; decide, by decide, by decide⟩
  · obtain rfl : k = 1 := by omega
    exact ⟨by unfold OPS; decide, by decide, by unfold OPS; decide, by decide, by decide⟩
theorem opn_c {k : Nat} (hk : k < 2) (st : List Nat) : opn (opS k :: st) = opn st := by
  have := (OPS_op hk).2.2.2.2
  show (if opS k = 33 ∨ opS k = 40 then 1 else 0) + opn st = _
  have h2 : (if opS k = 33 ∨ opS k = 40 then 1 else 0) + 0 = 0 := this
  omega
theorem PR_M (hP : P < 60) {k d p q : Nat} {r : Option (List tok)} (h : PR tx len k d p r q) : MM tx len B P k d p r q := by
  refine h (MM tx len B P) ⟨?_, ?_, ?_, ?_, ?_, ?_, ?_, ?_, ?_, ?_, ?_, ?_, ?_⟩
  · intro k d p q hk h1
    refine ⟨fun _ fuel m cs j st g1 g2 g3 g4 g5 g6 g7 => ?_, fun k' e => by omega⟩
    have h2 := h1.1 (by omega) fuel m cs j st g1 (fun _ => g2 hk) g3 (fun z => g4 (OPS_up z)) g5 g6 g7
    exact ⟨h2.1, fun l z => by cases z⟩
  · intro k d p q l r s hk h1 h2
    refine ⟨fun _ fuel m cs j st g1 g2 g3 g4 g5 g6 g7 => ?_, fun k' e => by omega⟩
    obtain rfl := g2 hk
    obtain ⟨U, f', m', cs', a1, a2, a3, a4, a5, a6⟩ := (h1.1 (by omega) fuel m cs 0 st g1 (fun _ => rfl) g3 (fun z => g4 (OPS_up z)) g5 g6 g7).2 l rfl
    have h3 := h2.2 k rfl f' m' cs' U st (by omega) (fun c hc => OPS_up (a3 c hc)) g3 g4 g5 (g6.fe a6) a4
    refine ⟨fun z => ?_, fun y hy => ?_⟩
    · cases r with
      | none => exact MNo.pre a2 a6 (h3.1 rfl)
      | some _ => cases z
    · cases r with
      | none => cases hy
      | some z =>
        cases hy
        have h4 := MYe.pre a2 a6 a1 (h3.2 z rfl)
        rw [a5] at h4
        rw [show cs ++ (l ++ z) ++ List.replicate 0 notT = cs ++ l ++ List.replicate 0 notT ++ z by simp]
        exact h4
  · intro k d p hk hs
    refine ⟨fun a => by omega, fun k' e fuel m cs U st g1 g2 g3 g4 g5 g6 g7 => ?_⟩
    obtain rfl : k = k' := by omega
    exact ⟨fun z => (by cases z), fun l z => by cases z; exact ⟨U, fuel, m, cs, Nat.le_refl _, rfl, g2, g7, (List.append_nil _).symm, okE.rfl⟩⟩
  · intro k d p q hk hs h1
    refine ⟨fun a => by omega, fun k' e fuel m cs U st g1 g2 g3 g4 g5 g6 g7 => ?_⟩
    obtain rfl : k = k' := by omega
    obtain ⟨f, rfl⟩ : ∃ f, fuel = f + 1 := ⟨fuel - 1, by have := g7.2.1; omega⟩
    obtain ⟨m1, a1, a2, a3⟩ := m_push (P := P) hk g6 g7 g2 g4 hs (lq2 (s_X12_takesE_22 (nI P)) f)
    have ho := OPS_op hk
    have h2 := h1.1 (by omega) f m1 _ 0 (opS k :: st) (by omega) (fun _ => rfl) ho.2.1 ho.1 (by rw [← g5]; exact opn_c hk st) (g6.fe a3) a2
    exact ⟨fun _ => MNo.pre a1 a3 (h2.1 rfl), fun l z => by cases z⟩
  · intro k d p q l r s hk hs h1 h2
    refine ⟨fun a => by omega, fun k' e fuel m cs U st g1 g2 g3 g4 g5 g6 g7 => ?_⟩
    obtain rfl : k = k' := by omega
    obtain ⟨f, rfl⟩ : ∃ f, fuel = f + 1 := ⟨fuel - 1, by have := g7.2.1; omega⟩
    obtain ⟨m1, a1, a2, a3⟩ := m_push (P := P) hk g6 g7 g2 g4 hs (lq2 (s_X12_takesE_22 (nI P)) f)
    have a0 : lq2 (s_X12_takesE_22 (nI P)) (f + 1) 0 m = lq2 (s_X12_takesE_22 (nI P)) f 1 m1 := a1
    have ho := OPS_op hk
    obtain ⟨V, f', m', cs', b1, b2, b3, b4, b5, b6⟩ := (h1.1 (by omega) f m1 _ 0 (opS k :: st) (by omega) (fun _ => rfl) ho.2.1 ho.1 (by rw [← g5]; exact opn_c hk st) (g6.fe a3) a2).2 l rfl
    have hV : ∀ c ∈ V ++ [opS k], OPS k c := by
      intro c hc
      rcases List.mem_append.mp hc with z | z
      · exact OPS_up (b3 c z)
      · rw [List.mem_singleton.mp z]; exact ho.2.2.1
    have b4' : RS B len m' q cs' ((V ++ [opS k]) ++ st) := by
      rw [List.append_assoc]
      exact b4
    have h3 := h2.2 k rfl f' m' cs' (V ++ [opS k]) st (by omega) hV g3 g4 g5 ((g6.fe a3).fe b6) b4'
    have hC : cs' ++ List.map tkS (V ++ [opS k]) = cs ++ List.map tkS U ++ (l ++ [opT k]) := by
      rw [List.map_append, ← List.append_assoc, b5, List.map_cons, List.map_nil, ho.2.2.2.1]
      simp
    refine ⟨fun z => ?_, fun y hy => ?_⟩
    · cases r with
      | none => exact MNo.pre a1 a3 (MNo.pre b2 b6 (h3.1 rfl))
      | some _ => cases z
    · cases r with
      | none => cases hy
      | some z =>
        cases hy
        have h4 := MYe.pre (p := p) a0 a3 (by omega : f + 1 + p ≤ f + (p + 1)) (MYe.pre b2 b6 b1 (h3.2 z rfl))
        rw [hC] at h4
        rw [show cs ++ List.map tkS U ++ (l ++ opT k :: z) = cs ++ List.map tkS U ++ (l ++ [opT k]) ++ z by simp]
        exact h4
  · intro d p n33 n40 e
    refine ⟨fun _ fuel m cs j st g1 g2 g3 g4 g5 g6 g7 => ?_, fun k' e => by omega⟩
    obtain ⟨f, rfl⟩ : ∃ f, fuel = f + 1 := ⟨fuel - 1, by have := g7.2.1; omega⟩
    refine ⟨fun _ => ?_, fun l z => by cases z⟩
    rcases m_test (P := P) g6 g7 g3 n33 n40 (lq2 (s_X12_takesE_22 (nI P)) f) with ⟨_, m', b1, b2, b3⟩ | ⟨f, rl, v, q, m', b1, _⟩
    · exact ⟨m', b1, b2, b3⟩
    · rw [b1] at e; cases e
  · intro d p f rl v q n33 n40 e
    refine ⟨fun _ fuel m cs j st g1 g2 g3 g4 g5 g6 g7 => ?_, fun k' e => by omega⟩
    obtain ⟨f, rfl⟩ : ∃ f, fuel = f + 1 := ⟨fuel - 1, by have := g7.2.1; omega⟩
    refine ⟨fun z => (by cases z), fun l z => ?_⟩
    cases z
    have hr := ((rdT_in (tx := tx) g7.2.1).2.2 _ _ _ (by rw [e])).1
    rw [e] at hr
    dsimp only at hr
    rcases m_test (P := P) g6 g7 g3 n33 n40 (lq2 (s_X12_takesE_22 (nI P)) f) with ⟨b1, _⟩ | ⟨f2, rl2, v2, q2, m', b1, b2, b3, b4⟩
    · rw [e] at b1; cases b1
    · rw [e] at b1
      cases b1
      exact ⟨[], f, m', _, by omega, b2, fun c hc => (by cases hc), b3, List.append_nil _, b4⟩
  · intro p hc
    refine ⟨fun _ fuel m cs j st g1 g2 g3 g4 g5 g6 g7 => ?_, fun k' e => by omega⟩
    obtain ⟨f, rfl⟩ : ∃ f, fuel = f + 1 := ⟨fuel - 1, by have := g7.2.1; omega⟩
    exact ⟨fun _ => ⟨m, m_deep g6 g7 hc g5 _, g7.1, okE.rfl⟩, fun l z => by cases z⟩
  · intro d p q hs hd h1
    refine ⟨fun _ fuel m cs j st g1 g2 g3 g4 g5 g6 g7 => ?_, fun k' e => by omega⟩
    obtain ⟨f, rfl⟩ : ∃ f, fuel = f + 1 := ⟨fuel - 1, by have := g7.2.1; omega⟩
    obtain ⟨m1, a1, a2, a3⟩ := m_open (P := P) g6 g7 hs (Or.inr rfl) (by omega) (lq2 (s_X12_takesE_22 (nI P)) f)
    have h2 := h1.1 (by omega) f m1 cs 0 (40 :: (List.replicate j 33 ++ st)) (by omega) (fun _ => rfl) (show (40 : Nat) ≠ 33 by decide) (show ¬ OPS 0 40 by unfold OPS; decide) (show 1 + opn (List.replicate j 33 ++ st) = d + 1 by omega) (g6.fe a3) a2
    exact ⟨fun _ => MNo.pre a1 a3 (h2.1 rfl), fun l z => by cases z⟩
  · intro d p q l hs hd h1 e1 e2 e3
    refine ⟨fun _ fuel m cs j st g1 g2 g3 g4 g5 g6 g7 => ?_, fun k' e => by omega⟩
    obtain ⟨f, rfl⟩ : ∃ f, fuel = f + 1 := ⟨fuel - 1, by have := g7.2.1; omega⟩
    obtain ⟨m1, a1, a2, a3⟩ := m_open (P := P) g6 g7 hs (Or.inr rfl) (by omega) (lq2 (s_X12_takesE_22 (nI P)) f)
    obtain ⟨U, f', m', cs', b1, b2, b3, b4, b5, b6⟩ := (h1.1 (by omega) f m1 cs 0 (40 :: (List.replicate j 33 ++ st)) (by omega) (fun _ => rfl) (show (40 : Nat) ≠ 33 by decide) (show ¬ OPS 0 40 by unfold OPS; decide) (show 1 + opn (List.replicate j 33 ++ st) = d + 1 by omega) (g6.fe a3) a2).2 l rfl
    obtain ⟨f2, rfl⟩ : ∃ f, f' = f + 1 := ⟨f' - 1, by have := b4.2.1; omega⟩
    obtain ⟨m2, c1, c2, c3⟩ := m_open2 hP ((g6.fe a3).fe b6) b4 b3 e1 e2 e3 (lq2 (s_X12_takesE_22 (nI P)) f2)
    exact ⟨fun _ => ⟨m2, (a1.trans b2 : lq2 (s_X12_takesE_22 (nI P)) (f + 1) 1 m = _).trans c1, c2, (a3.trans b6).trans c3⟩, fun l z => by cases z⟩
  · intro d p q l hs hd h1 e3
    refine ⟨fun _ fuel m cs j st g1 g2 g3 g4 g5 g6 g7 => ?_, fun k' e => by omega⟩
    obtain ⟨f, rfl⟩ : ∃ f, fuel = f + 1 := ⟨fuel - 1, by have := g7.2.1; omega⟩
    obtain ⟨m1, a1, a2, a3⟩ := m_open (P := P) g6 g7 hs (Or.inr rfl) (by omega) (lq2 (s_X12_takesE_22 (nI P)) f)
    obtain ⟨U, f', m', cs', b1, b2, b3, b4, b5, b6⟩ := (h1.1 (by omega) f m1 cs 0 (40 :: (List.replicate j 33 ++ st)) (by omega) (fun _ => rfl) (show (40 : Nat) ≠ 33 by decide) (show ¬ OPS 0 40 by unfold OPS; decide) (show 1 + opn (List.replicate j 33 ++ st) = d + 1 by omega) (g6.fe a3) a2).2 l rfl
    obtain ⟨f2, rfl⟩ : ∃ f, f' = f + 1 := ⟨f' - 1, by have := b4.2.1; omega⟩
    obtain ⟨m2, c1, c2, c3⟩ := m_shut hP ((g6.fe a3).fe b6) b4 b3 g3 e3 (lq2 (s_X12_takesE_22 (nI P)) f2)
    refine ⟨fun z => (by cases z), fun y z => ?_⟩
    cases z
    refine ⟨[], f2, m2, _, by omega, (a1.trans b2 : lq2 (s_X12_takesE_22 (nI P)) (f + 1) 1 m = _).trans c1, fun c hc => (by cases hc), c2, ?_, (a3.trans b6).trans c3⟩
    rw [b5]
    simp
  · intro d p q hs hd h1
    refine ⟨fun _ fuel m cs j st g1 g2 g3 g4 g5 g6 g7 => ?_, fun k' e => by omega⟩
    obtain ⟨f, rfl⟩ : ∃ f, fuel = f + 1 := ⟨fuel - 1, by have := g7.2.1; omega⟩
    obtain ⟨m1, a1, a2, a3⟩ := m_open (P := P) g6 g7 hs (Or.inl rfl) (by omega) (lq2 (s_X12_takesE_22 (nI P)) f)
    have h2 := h1.1 (by omega) f m1 cs (j + 1) st (by omega) (fun a => by omega) g3 g4 (show 1 + opn (List.replicate j 33 ++ st) = d + 1 by omega) (g6.fe a3) a2
    exact ⟨fun _ => MNo.pre a1 a3 (h2.1 rfl), fun l z => by cases z⟩
  · intro d p q l hs hd h1
    refine ⟨fun _ fuel m cs j st g1 g2 g3 g4 g5 g6 g7 => ?_, fun k' e => by omega⟩
    obtain ⟨f, rfl⟩ : ∃ f, fuel = f + 1 := ⟨fuel - 1, by have := g7.2.1; omega⟩
    obtain ⟨m1, a1, a2, a3⟩ := m_open (P := P) g6 g7 hs (Or.inl rfl) (by omega) (lq2 (s_X12_takesE_22 (nI P)) f)
    have h2 := h1.1 (by omega) f m1 cs (j + 1) st (by omega) (fun a => by omega) g3 g4 (show 1 + opn (List.replicate j 33 ++ st) = d + 1 by omega) (g6.fe a3) a2
    refine ⟨fun z => (by cases z), fun y z => ?_⟩
    cases z
    have a0 : lq2 (s_X12_takesE_22 (nI P)) (f + 1) 1 m = lq2 (s_X12_takesE_22 (nI P)) f 1 m1 := a1
    have h4 := MYe.pre (p := p) a0 a3 (by omega : f + 1 + p ≤ f + (p + 1)) (h2.2 l rfl)
    rw [show cs ++ (l ++ [notT]) ++ List.replicate j notT = cs ++ l ++ List.replicate (j + 1) notT by rw [List.replicate_succ]; simp]
    exact h4
end R1
