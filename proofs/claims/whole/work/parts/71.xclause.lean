/-! THE TEXT: one CLAUSE of the class -/
/-- what a NIGHT gets by a CLAUSE -/
def okY (g i : Nat) (x x' : gMem) : Prop := (∀ o k, ¬ (o = 30 ∧ k = 2) → ¬ (o = g ∧ (k = 0 ∨ k = 5)) → o ≠ g + 4 → ¬ (g + 1 ≤ o ∧ o ≤ g + 3 ∧ i ≤ k) → gI x' o k = gI x o k) ∧ (∀ o k, gJ x' o k = gJ x o k) ∧ ∀ o k, gR x' o k = gR x o k
section D1
variable {L : List Nat} {tx : Nat → Nat} {len g i : Nat}
theorem okY.trans {x y z : gMem} {i' : Nat} (h1 : okY g i x y) (h2 : okY g i' y z) (h : i ≤ i') : okY g i x z := ⟨fun o k a b c d => (h2.1 o k a b c (by omega)).trans (h1.1 o k a b c d), fun o k => (h2.2.1 o k).trans (h1.2.1 o k), fun o k => (h2.2.2 o k).trans (h1.2.2 o k)⟩
theorem okG.toY {x x' : gMem} (h : okG g x x') : okY g i x x' := ⟨fun o k a b c _ => h.1 o k a (by omega) c, h.2⟩
theorem TXX.fy {x x' : gMem} (h : TXX x tx len) (hg : 60 ≤ g) (hx : okY g i x x') : TXX x' tx len := ⟨(hx.1 _ _ (by omega) (by omega) (by omega) (by omega)).trans h.1, h.2.1, fun k hk => ⟨(hx.1 _ _ (by omega) (by omega) (by omega) (by omega)).trans (h.2.2 k hk).1, (h.2.2 k hk).2⟩⟩
theorem x_addClause {x : gMem} {n : Nat} {a b : Int32} (hg : 60 ≤ g) (e : gI x g 0 = nI i) (hi : i < 10) (e5 : gI x g 5 = nI n) : ∃ x', f_X3_addClause L x g a b = some x' ∧ gI x' 30 2 = gI x 30 2 ∧ gI x' g 0 = nI (i + 1) ∧ gI x' g 5 = nI n ∧ gI x' (g + 1) i = a ∧ gI x' (g + 2) i = b ∧ gI x' (g + 3) i = nI n ∧ (∀ k, gI x' (g + 4) k = gI x (g + 4) k) ∧ okY g i x x' := by
  have hm : ∃ x', x' = gsI (gsI (gsI (gsI x (g + 1) i a) (g + 2) i b) (g + 3) i (nI n)) g 0 (nI (i + 1)) := ⟨_, rfl⟩
  obtain ⟨x', hm⟩ := hm
  refine ⟨x', ?_, ?_, ?_, ?_, ?_, ?_, ?_, ?_, ?_⟩
  · unfold f_X3_addClause
    rw [e, if_neg (nI_pos (by omega)), if_neg (show ¬ (10 : Int32) ≤ nI i from nI_ge (b := 10) hi (by decide)), if_pos (okN hi (by decide)), ixN (by omega), lt1_s, gI_n (by omega), e, if_pos (okN hi (by decide)), ixN (by omega), lt1_s, gI_n (by omega), gI_n (by omega), e, if_pos (okN hi (by decide)), ixN (by omega), gI_n (by omega), gI_n (by omega), e5, lt1_s, gI_n (by omega), gI_n (by omega), gI_n (by omega), e, nI_1, lt1_s, hm]
  all_goals rw [hm]
  · simp (disch := omega) only [gI_n]
  · simp (disch := omega) only [gI_y]
  · simp (disch := omega) only [gI_n]; exact e5
  · simp (disch := omega) only [gI_n, gI_y]
  · simp (disch := omega) only [gI_n, gI_y]
  · simp (disch := omega) only [gI_n, gI_y]
  · intro k; simp (disch := omega) only [gI_n]
  · refine ⟨fun o k h1 h2 h3 h4 => ?_, fun _ _ => rfl, fun _ _ => rfl⟩
    rw [gI_n (by omega), gI_n (by omega), gI_n (by omega), gI_n (by omega)]
theorem x_clause {x : gMem} {p n : Nat} {j6 : gMem → Option (Int32 × gMem)} (hg : isN g) (hg6 : 60 ≤ g) (hi : i < 10) (h3 : TXX x tx len) (h4 : gI x 30 2 = nI p) (h5 : p ≤ len) (h6 : gR x 30 3 = some g) (h7 : gI x g 5 = nI n) (h8 : n ≤ p) (h9 : gI x g 0 = nI i) (F : Int32 → Int32 → gMem → Option (Int32 × gMem)) : (∃ q x', CLR tx len p none q ∧ s_X4_readNight_27 j6 L F 1 (nI i) x = some (nI q, x') ∧ q ≤ len ∧ okY g i x x') ∨ ∃ w v l q x', CLR tx len p (some (w, (v, l))) q ∧ s_X4_readNight_27 j6 L F 1 (nI i) x = (if (9 : Int32) ≤ nI i then F 0 (nI (i + 1)) x' else if sg tx len q = 59 then F 1 (nI (i + 1)) (gsI x' 30 2 (nI (q + 1))) else F 0 (nI (i + 1)) x') ∧ w < 3 ∧ v < 100 ∧ q ≤ len ∧ n + l.length ≤ q ∧ gI x' 30 2 = nI q ∧ gI x' g 0 = nI (i + 1) ∧ gI x' g 5 = nI (n + l.length) ∧ gI x' (g + 1) i = nI w ∧ gI x' (g + 2) i = nI v ∧ gI x' (g + 3) i = nI (n + l.length) ∧ CX (gI x' (g + 4)) tkX n l ∧ (∀ k, k < n → gI x' (g + 4) k = gI x (g + 4) k) ∧ okY g i x x' := by
  have hl := h3.2.1
  have hle := rdH_le tx len p
  obtain ⟨x1, a1, a2, a3, a4⟩ := x_head (L := L) h3 h4 h5
  have t1 := h3.fr a3
  unfold s_X4_readNight_27
  rw [if_neg (show ¬ (10 : Int32) ≤ nI i from nI_ge (b := 10) hi (by decide)), if_neg (show ¬ (1 : Int32) = 0 by decide), a1, bd2_s, jn_s]
  cases hh : (rdH tx len p).1 with
  | none =>
    refine Or.inl ⟨_, x1, Or.inl ⟨hh, rfl, rfl⟩, ?_, a4, a3.toG.toY⟩
    rw [if_neg (show ¬ (0 : Int32) ≤ hv none by decide)]
    dsimp only
    rw [if_pos (show (-1 : Int32) < 0 by decide), a2]
  | some w =>
    have hw := rdH_3 hh
    rw [show hv (some w) = nI w from rfl, if_pos (nI_pos' (by omega))]
    rcases x_number (L := L) t1 a2 a4 with ⟨d1, d2⟩ | ⟨v, p2, x2, d1, d2, d3, d4⟩
    · refine Or.inl ⟨_, x1, Or.inr ⟨w, hh, Or.inl ⟨d1, rfl, rfl⟩⟩, ?_, a4, a3.toG.toY⟩
      rw [d2, bd2_s]
      dsimp only
      rw [if_pos (show (-1 : Int32) < 0 by decide), a2]
    have hv := rdN_le d1
    have b2 := a3.trans d4
    have t2 := h3.fr b2
    rw [d2, bd2_s]
    dsimp only
    rw [if_neg (show ¬ nI v < (0 : Int32) from nI_pos (by omega)), show (32 : Int32) = nI 32 from rfl, x_skip t2 d3 hv.2.2 (by decide)]
    by_cases c32 : sg tx len p2 = 32
    · have hlt := sg_in c32 (by decide)
      have b3 := b2.trans (okR.s x2 (nI (p2 + 1)))
      rw [if_pos c32, bd2_s, if_neg (show ¬ (1 : Int32) = 0 by decide)]
      unfold f_X4_readEither
      rcases x_R (L := L) hg hg6 24 24 0 0 (by decide) (by decide) (by decide) (by decide) _ (p2 + 1) n (h3.fr b3) (gI_y ⟨rfl, rfl⟩) (by omega) ((b3.2.2 30 3).trans h6) ((b3.1 _ _ (by omega)).trans h7) (by omega) with ⟨q, x3, n3, e1, e2, e3, e4, e5, e6⟩ | ⟨l, q, x3, e1, e2, e3, e4, e5, e6, e7⟩
      · refine Or.inl ⟨q, x3, Or.inr ⟨w, hh, Or.inr ⟨v, p2, d1, Or.inr ⟨c32, Or.inl ⟨rfl, e1⟩⟩⟩⟩, ?_, (PR_in e1 (by omega)).2.1, (b3.toG.trans e6).toY⟩
        rw [show f_R L 24 0 (gsI x2 30 2 (nI (p2 + 1))) 0 = _ from e2, bd2_s, if_pos rfl, e3]
      · have b4 := b3.toG.trans e7
        have hin := PR_in e1 (by omega)
        have hn := hin.2.2 l rfl
        obtain ⟨x4, f1, f2, f3, f4, f5, f6, f7, f8, f9⟩ := x_addClause (L := L) (a := nI w) (b := nI v) hg6 ((b4.1 _ _ (by omega) (by omega) (by omega)).trans h9) hi e4
        have b5 : okY g i x x4 := (b4.toY (i := i)).trans f9 (Nat.le_refl _)
        refine Or.inr ⟨w, v, l, q, x4, Or.inr ⟨w, hh, Or.inr ⟨v, p2, d1, Or.inr ⟨c32, Or.inr ⟨l, rfl, e1⟩⟩⟩⟩, ?_, hw, by omega, hin.2.1, by omega, f2.trans e3, f3, f4, f5, f6, f7, e5.fr (fun k _ _ => f8 k), fun k hk => ?_, b5⟩
        · rw [show f_R L 24 0 (gsI x2 30 2 (nI (p2 + 1))) 0 = _ from e2, bd2_s, if_neg (show ¬ (1 : Int32) = 0 by decide), (b4.2.2 30 3).trans h6, oc_s, if_pos hg, f1, bd_s, jn_s, jn_s]
          dsimp only
          rw [show (59 : Int32) = nI 59 from rfl, x_skip (h3.fy hg6 b5) (f2.trans e3) hin.2.1 (by decide)]
          by_cases i9 : (9 : Int32) ≤ nI i
          · rw [if_pos i9, if_pos i9, nI_1, lt1_s]
          · rw [if_neg i9, if_neg i9]
            by_cases c59 : sg tx len q = 59
            · rw [if_pos c59, if_pos c59, bd2_s, if_neg (show ¬ (1 : Int32) = 0 by decide), nI_1, lt1_s]
            · rw [if_neg c59, if_neg c59, bd2_s, if_pos rfl, nI_1, lt1_s]
        · rw [f8, e6 k hk, b3.1 _ _ (by omega)]
    · refine Or.inl ⟨p2, x2, Or.inr ⟨w, hh, Or.inr ⟨v, p2, d1, Or.inl ⟨c32, rfl, rfl⟩⟩⟩, ?_, hv.2.2, b2.toG.toY⟩
      rw [if_neg c32, bd2_s, if_pos rfl, d3]
end D1
