/-! THE TEXT: the class's reader, its levels -/
def CX (f : Nat → Int32) (tk : tok → Int32) : Nat → List tok → Prop
  | _, [] => True
  | a, t :: r => f a = tk t ∧ CX f tk (a + 1) r
theorem CX.app {f : Nat → Int32} {tk : tok → Int32} : ∀ {l1 : List tok} {a : Nat} {l2 : List tok}, CX f tk a l1 → CX f tk (a + l1.length) l2 → CX f tk a (l1 ++ l2)
  | [], a, l2, _, h2 => h2
  | t :: r, a, l2, h1, h2 => ⟨h1.1, CX.app (l1 := r) h1.2 (by rw [show a + 1 + r.length = a + (t :: r).length by rw [List.length_cons]; omega]; exact h2)⟩
theorem CX.fr {f f' : Nat → Int32} {tk : tok → Int32} : ∀ {l : List tok} {a : Nat}, CX f tk a l → (∀ k, a ≤ k → k < a + l.length → f' k = f k) → CX f' tk a l
  | [], a, _, _ => trivial
  | t :: r, a, h1, h2 => ⟨(h2 a (Nat.le_refl _) (by rw [List.length_cons]; omega)).trans h1.1, CX.fr (l := r) h1.2 (fun k hk hk2 => h2 k (by omega) (by rw [List.length_cons]; omega))⟩
theorem CX.get {f : Nat → Int32} {tk : tok → Int32} : ∀ {l : List tok} {a : Nat}, CX f tk a l → ∀ j (hj : j < l.length), f (a + j) = tk l[j]
  | t :: r, a, h, 0, _ => h.1
  | t :: r, a, h, j + 1, hj => by
    have := CX.get (l := r) h.2 j (by rw [List.length_cons] at hj; omega)
    rw [show a + (j + 1) = a + 1 + j by omega]
    exact this
section X1
variable {L : List Nat} {tx : Nat → Nat} {len g : Nat}
theorem TXX.fg {x x' : gMem} (h : TXX x tx len) (hg : 60 ≤ g) (hx : okG g x x') : TXX x' tx len := ⟨(hx.1 _ _ (by omega) (by omega) (by omega)).trans h.1, h.2.1, fun k hk => ⟨(hx.1 _ _ (by omega) (by omega) (by omega)).trans (h.2.2 k hk).1, (h.2.2 k hk).2⟩⟩
theorem okG.rfl {x : gMem} : okG g x x := ⟨fun _ _ _ _ _ => Eq.refl _, fun _ _ => Eq.refl _, fun _ _ => Eq.refl _⟩
theorem x_addAny {x : gMem} {n : Nat} {c : Int32} (e : gI x g 5 = nI n) (hn : n ≤ 100) : ∃ x' n', f_X3_addCode L x g c = some x' ∧ n' ≤ 100 ∧ gI x' g 5 = nI n' ∧ okG g x x' ∧ (60 ≤ g → gI x' 30 2 = gI x 30 2) := by
  by_cases q : n < 100
  · obtain ⟨x', a1, a2, a3, a4, a5, a6, a7⟩ := x_addCode (L := L) (g := g) (c := c) e q
    exact ⟨x', n + 1, a1, by omega, a2, ⟨fun o k _ b d => a5 o k b d, a6, a7⟩, fun hg => a5 _ _ (by omega) (by omega)⟩
  · refine ⟨x, n, ?_, hn, e, okG.rfl, fun _ => rfl⟩
    unfold f_X3_addCode
    rw [e, if_neg (nI_pos (by omega)), if_pos (show (100 : Int32) ≤ nI n from nI_le (a := 100) (by omega) (by omega))]
/-- how a level reads: it fails, or its tokens are there -/
def XP (tx : Nat → Nat) (len g k d : Nat) (G : gMem → Option (Int32 × gMem)) : Prop := ∀ x p n, TXX x tx len → gI x 30 2 = nI p → p ≤ len → gR x 30 3 = some g → gI x g 5 = nI n → n ≤ p → (∃ q x' n', PR tx len k d p none q ∧ G x = some (0, x') ∧ gI x' 30 2 = nI q ∧ gI x' g 5 = nI n' ∧ n' ≤ 100 ∧ okG g x x') ∨ (∃ l q x', PR tx len k d p (some l) q ∧ G x = some (1, x') ∧ gI x' 30 2 = nI q ∧ gI x' g 5 = nI (n + l.length) ∧ CX (gI x' (g + 4)) tkX n l ∧ (∀ k, k < n → gI x' (g + 4) k = gI x (g + 4) k) ∧ okG g x x')
theorem x_loop {k d : Nat} {p0 : Int32} {rec : Nat → gMem → Int32 → Option (Int32 × gMem)} {S : (Int32 → Int32 → gMem → Option (Int32 × gMem)) → Int32 → Int32 → gMem → Option (Int32 × gMem)} (hS : ∀ F x4 x5 m6, S F x4 x5 m6 = if (100 : Int32) ≤ x5 then (if isB x4 then some (x4, m6) else none) else if x4 = 0 then (if isB x4 then some (x4, m6) else none) else bd (f_X4_sign L m6) fun (x7 : Int32) => if x7 = nI (opS k) then (lt1 (gsI m6 30 2 ((gI m6 30 2) + (1 : Int32))) fun (m8 : gMem) => bd2 (rec (k + 1) m8 p0) fun (x10 : Int32) (m9 : gMem) => oc (gR m9 30 3) none fun g11 => if isN g11 then bd (f_X3_addCode L m9 g11 (tkX (opT k))) fun (m12 : gMem) => lt1 (x5 + (1 : Int32)) fun (x13 : Int32) => (F x10 x13 m12) else none) else if isB x4 then some (x4, m6) else none) (hk : k < 2) (hg : isN g) (hg6 : 60 ≤ g) (hX : XP tx len g (k + 1) d (fun m => rec (k + 1) m p0)) : ∀ (D fuel i : Nat), D + 1 < fuel → ∀ x p n, len ≤ p + D → i ≤ p → TXX x tx len → gI x 30 2 = nI p → p ≤ len → gR x 30 3 = some g → gI x g 5 = nI n → n ≤ p → (∃ q x' n', PR tx len (k + 3) d p none q ∧ lq3 S fuel 1 (nI i) x = some (0, x') ∧ gI x' 30 2 = nI q ∧ gI x' g 5 = nI n' ∧ n' ≤ 100 ∧ okG g x x') ∨ (∃ l q x', PR tx len (k + 3) d p (some l) q ∧ lq3 S fuel 1 (nI i) x = some (1, x') ∧ gI x' 30 2 = nI q ∧ gI x' g 5 = nI (n + l.length) ∧ CX (gI x' (g + 4)) tkX n l ∧ (∀ k, k < n → gI x' (g + 4) k = gI x (g + 4) k) ∧ okG g x x') := by
  have hop : opS k < 200 := by unfold opS; split <;> decide
  have fin : ∀ (f : Nat) (i : Int32) (y : gMem), lq3 S (f + 1) 0 i y = some (0, y) := fun f i y => by
    rw [lq3_u, hS, if_pos (show (0 : Int32) = 0 from rfl), if_pos (show isB 0 by decide), ite_self]
  intro D
  induction D with
  | zero =>
    intro fuel i hf x p n h1 h2 h3 h4 h5 h6 h7 h8
    obtain ⟨f, rfl⟩ : ∃ f, fuel = f + 1 := ⟨fuel - 1, by omega⟩
    have hs : sg tx len p ≠ opS k := by unfold sg; rw [if_neg (by omega)]; omega
    refine Or.inr ⟨[], p, x, PR_c.2.2.1 k d p hk hs, ?_, h4, h7, trivial, fun _ _ => rfl, okG.rfl⟩
    have hle : sg tx len p ≤ 200 := sg_200 fun k hk => (h3.2.2 k hk).2
    rw [lq3_u, hS, if_neg (show ¬ (1 : Int32) = 0 by decide), x_sign h3 h4 h5, bd_s, if_neg (fun z => hs ((sv_eq hle hop).mp z)), if_pos (show isB 1 by decide), ite_self]
  | succ D ih =>
    intro fuel i hf x p n h1 h2 h3 h4 h5 h6 h7 h8
    obtain ⟨f, rfl⟩ : ∃ f, fuel = f + 1 := ⟨fuel - 1, by omega⟩
    have hle : sg tx len p ≤ 200 := sg_200 fun k hk => (h3.2.2 k hk).2
    by_cases hs : sg tx len p = opS k
    · have hlt := sg_in hs hop
      have hl := h3.2.1
      have a1 := okR.s x (nI (p + 1))
      have b1 := (a1.toG (g := g))
      rw [lq3_u, hS, if_neg (show ¬ (100 : Int32) ≤ nI i from nI_ge (b := 100) (by omega) (by decide)), if_neg (show ¬ (1 : Int32) = 0 by decide), x_sign h3 h4 h5, bd_s, if_pos ((sv_eq hle hop).mpr hs), h4, nI_1, lt1_s]
      rcases hX (gsI x 30 2 (nI (p + 1))) (p + 1) n (h3.fr a1) (gI_y ⟨rfl, rfl⟩) (by omega) h6 (by rw [gI_n (by omega)]; exact h7) (by omega) with ⟨q, x2, n2, c1, c2, c3, c4, c5, c6⟩ | ⟨l, q, x2, c1, c2, c3, c4, c5, c6, c7⟩
      · obtain ⟨x3, n3, d1, d2, d3, d4, d5⟩ := x_addAny (L := L) (c := tkX (opT k)) c4 c5
        refine Or.inl ⟨q, x3, n3, PR_c.2.2.2.1 k d p q hk hs c1, ?_, (d5 hg6).trans c3, d3, d2, (b1.trans c6).trans d4⟩
        obtain ⟨f, rfl⟩ : ∃ e, f = e + 1 := ⟨f - 1, by omega⟩
        rw [show rec (k + 1) (gsI x 30 2 (nI (p + 1))) p0 = _ from c2, bd2_s, (c6.2.2 30 3).trans h6, oc_s, if_pos hg, d1, bd_s, lt1_s, fin]
      · have hin := PR_in c1 (by omega)
        have hn := hin.2.2 l rfl
        obtain ⟨x3, d1, d2, d3, d4, d5, d6, d7⟩ := x_addCode (L := L) (c := tkX (opT k)) c4 (by omega)
        have d8 : okG g x2 x3 := ⟨fun o k _ b d => d5 o k b d, d6, d7⟩
        have b3 := (b1.trans c7).trans d8
        rw [show rec (k + 1) (gsI x 30 2 (nI (p + 1))) p0 = _ from c2, bd2_s, (c7.2.2 30 3).trans h6, oc_s, if_pos hg, d1, bd_s, nI_1, lt1_s]
        have fr3 : ∀ j, j < n → gI x3 (g + 4) j = gI x (g + 4) j := fun j hj => by rw [d4 j (by omega), c6 j hj, gI_n (by omega)]
        rcases ih f (i + 1) (by omega) x3 q (n + l.length + 1) (by omega) (by omega) (h3.fg hg6 b3) (by rw [d5 _ _ (by omega) (by omega)]; exact c3) hin.2.1 ((b3.2.2 30 3).trans h6) d2 (by omega) with ⟨s, x4, n4, e1, e2, e3, e4, e5, e6⟩ | ⟨l2, s, x4, e1, e2, e3, e4, e5, e6, e7⟩
        · exact Or.inl ⟨s, x4, n4, PR_c.2.2.2.2.1 k d p q l none s hk hs c1 e1, e2, e3, e4, e5, b3.trans e6⟩
        · refine Or.inr ⟨l ++ opT k :: l2, s, x4, PR_c.2.2.2.2.1 k d p q l (some l2) s hk hs c1 e1, e2, e3, ?_, ?_, ?_, b3.trans e7⟩
          · rw [e4, List.length_append, List.length_cons, show n + l.length + 1 + l2.length = n + (l.length + (l2.length + 1)) by omega]
          · refine (c5.fr (fun j a b => by rw [e6 j (by omega), d4 j (by omega)])).app ⟨by rw [e6 _ (by omega)]; exact d3, e5⟩
          · exact fun j hj => (e6 j (by omega)).trans (fr3 j hj)
    · refine Or.inr ⟨[], p, x, PR_c.2.2.1 k d p hk hs, ?_, h4, h7, trivial, fun _ _ => rfl, okG.rfl⟩
      rw [lq3_u, hS, if_neg (show ¬ (1 : Int32) = 0 by decide), x_sign h3 h4 h5, bd_s, if_neg (fun z => hs ((sv_eq hle hop).mp z)), if_pos (show isB 1 by decide), ite_self]
theorem x_level {k d : Nat} {p0 : Int32} {rec : Nat → gMem → Int32 → Option (Int32 × gMem)} {S : (Int32 → Int32 → gMem → Option (Int32 × gMem)) → Int32 → Int32 → gMem → Option (Int32 × gMem)} (hS : ∀ F x4 x5 m6, S F x4 x5 m6 = if (100 : Int32) ≤ x5 then (if isB x4 then some (x4, m6) else none) else if x4 = 0 then (if isB x4 then some (x4, m6) else none) else bd (f_X4_sign L m6) fun (x7 : Int32) => if x7 = nI (opS k) then (lt1 (gsI m6 30 2 ((gI m6 30 2) + (1 : Int32))) fun (m8 : gMem) => bd2 (rec (k + 1) m8 p0) fun (x10 : Int32) (m9 : gMem) => oc (gR m9 30 3) none fun g11 => if isN g11 then bd (f_X3_addCode L m9 g11 (tkX (opT k))) fun (m12 : gMem) => lt1 (x5 + (1 : Int32)) fun (x13 : Int32) => (F x10 x13 m12) else none) else if isB x4 then some (x4, m6) else none) (hk : k < 2) (hg : isN g) (hg6 : 60 ≤ g) (hX : XP tx len g (k + 1) d (fun m => rec (k + 1) m p0)) : XP tx len g k d (fun m => bd2 (rec (k + 1) m p0) fun (x2 : Int32) (m1 : gMem) => lq3 S 1000 x2 (nI 0) m1) := by
  intro x p n h3 h4 h5 h6 h7 h8
  have hl := h3.2.1
  rcases hX x p n h3 h4 h5 h6 h7 h8 with ⟨q, x2, n2, c1, c2, c3, c4, c5, c6⟩ | ⟨l, q, x2, c1, c2, c3, c4, c5, c6, c7⟩
  · refine Or.inl ⟨q, x2, n2, PR_c.1 k d p q hk c1, ?_, c3, c4, c5, c6⟩
    show bd2 (rec (k + 1) x p0) _ = _
    rw [show rec (k + 1) x p0 = _ from c2, bd2_s, show (1000 : Nat) = 999 + 1 from rfl, lq3_u, hS, if_pos (show (0 : Int32) = 0 from rfl), if_pos (show isB 0 by decide), ite_self]
  · have hin := PR_in c1 (by omega)
    have hn := hin.2.2 l rfl
    rcases x_loop hS hk hg hg6 hX len 1000 0 (by omega) x2 q (n + l.length) (by omega) (by omega) (h3.fg hg6 c7) c3 hin.2.1 ((c7.2.2 30 3).trans h6) c4 (by omega) with ⟨s, x4, n4, e1, e2, e3, e4, e5, e6⟩ | ⟨l2, s, x4, e1, e2, e3, e4, e5, e6, e7⟩
    · refine Or.inl ⟨s, x4, n4, PR_c.2.1 k d p q l none s hk c1 e1, ?_, e3, e4, e5, c7.trans e6⟩
      show bd2 (rec (k + 1) x p0) _ = _
      rw [show rec (k + 1) x p0 = _ from c2, bd2_s]
      exact e2
    · refine Or.inr ⟨l ++ l2, s, x4, PR_c.2.1 k d p q l (some l2) s hk c1 e1, ?_, e3, ?_, ?_, ?_, c7.trans e7⟩
      · show bd2 (rec (k + 1) x p0) _ = _
        rw [show rec (k + 1) x p0 = _ from c2, bd2_s]
        exact e2
      · rw [e4, List.length_append, Nat.add_assoc]
      · exact (c5.fr (fun j a b => e6 j (by omega))).app e5
      · exact fun j hj => (e6 j (by omega)).trans (c6 j hj)
end X1
