/-! THE TEXT: one test, the class -/
section T2
variable {L : List Nat} {x m : gMem} {tx : Nat → Nat} {len p g n : Nat}
theorem okR.toG {x x' : gMem} (h : okR x x') : okG g x x' := ⟨fun o k q _ _ => h.1 o k q, h.2.1, h.2.2⟩
theorem okG.trans {x y z : gMem} (h1 : okG g x y) (h2 : okG g y z) : okG g x z := ⟨fun o k a b c => (h2.1 o k a b c).trans (h1.1 o k a b c), fun o k => (h2.2.1 o k).trans (h1.2.1 o k), fun o k => (h2.2.2 o k).trans (h1.2.2 o k)⟩
theorem rlc_lt (h : rlc (sg tx len p) ≠ 3) : p < len := by
  unfold rlc sg at h
  by_cases q : p < len
  · exact q
  · rw [if_neg q] at h
    exact absurd rfl h
theorem plc_lt (h : plc (sg tx len p) ≠ 6) : p < len := by
  by_cases q : p < len
  · exact q
  · unfold sg at h
    rw [if_neg q] at h
    exact absurd rfl h
theorem x_readTest (h : TXX x tx len) (e : gI x 30 2 = nI p) (hp : p ≤ len) (r : gR x 30 3 = some g) (hg : isN g) (hg6 : 60 ≤ g) (en : gI x g 5 = nI n) (hn : n < 100) : ((rdT tx len p).1 = none ∧ ∃ x', f_X4_readTest L x = some (0, x') ∧ gI x' 30 2 = nI (rdT tx len p).2 ∧ okR x x') ∨ ∃ f rl v q x', rdT tx len p = (some (f, rl, v), q) ∧ f_X4_readTest L x = some (1, x') ∧ gI x' 30 2 = nI q ∧ gI x' g 5 = nI (n + 1) ∧ gI x' (g + 4) n = nI (f * 300 + rl * 100 + v) ∧ (∀ k, k ≠ n → gI x' (g + 4) k = gI x (g + 4) k) ∧ okG g x x' := by
  have h6 := plc_le (sg tx len p)
  have h3 := rlc_le (sg tx len (p + 1))
  unfold f_X4_readTest rdT
  rw [x_place3 h e hp, bd_s]
  by_cases c6 : plc (sg tx len p) = 6
  · refine Or.inl ⟨by rw [if_pos c6], x, ?_, by rw [if_pos c6]; exact e, okR.rfl⟩
    rw [if_neg (fun z => ((pl6_le h6 (by decide)).mp z) c6)]
  have l1 := plc_lt c6
  have a1 := okR.s x (nI (p + 1))
  have b1 : gI (gsI x 30 2 (nI (p + 1))) 30 2 = nI (p + 1) := gI_y ⟨rfl, rfl⟩
  rw [if_pos ((pl6_le h6 (by decide)).mpr c6), e, nI_1, lt1_s, x_place4 (h.fr a1) b1 (by omega), bd_s, if_neg c6]
  by_cases c3 : rlc (sg tx len (p + 1)) = 3
  · refine Or.inl ⟨by rw [if_pos c3], _, ?_, by rw [if_pos c3]; exact b1, a1⟩
    rw [if_neg (fun z => ((pl6_le h3 (by decide)).mp z) c3)]
  have l2 := rlc_lt c3
  have a2 := a1.trans (okR.s _ (nI (p + 2)))
  have b2 : gI (gsI (gsI x 30 2 (nI (p + 1))) 30 2 (nI (p + 2))) 30 2 = nI (p + 2) := gI_y ⟨rfl, rfl⟩
  rw [if_pos ((pl6_le h3 (by decide)).mpr c3), b1, nI_1, lt1_s, if_neg c3]
  rcases x_number (L := L) (h.fr a2) b2 (by omega) with ⟨d1, d2⟩ | ⟨v, q, x3, d1, d2, d3, d4⟩
  · refine Or.inl ⟨by rw [d1], _, ?_, by rw [d1]; exact b2, a2⟩
    rw [d2, bd2_s, if_neg (by decide)]
  · have hv := rdN_le d1
    have a3 := a2.trans d4
    obtain ⟨x4, f1, f2, f3, f4, f5, f6, f7⟩ := x_addCode (L := L) (g := g) (n := n) (c := nI (plc (sg tx len p) * 300 + rlc (sg tx len (p + 1)) * 100 + v)) ((a3.1 _ _ (by omega)).trans en) hn
    refine Or.inr ⟨_, _, v, q, x4, by rw [d1], ?_, ?_, f2, f3, fun k hk => (f4 k hk).trans (a3.1 _ _ (by omega)), a3.toG.trans ⟨fun o k _ u w => f5 o k u w, f6, f7⟩⟩
    · have e1 : pl6 6 (plc (sg tx len p)) = nI (plc (sg tx len p)) := if_neg c6
      have e2 : pl6 3 (rlc (sg tx len (p + 1))) = nI (rlc (sg tx len (p + 1))) := if_neg c3
      rw [d2, bd2_s, if_pos (nI_pos' (by omega)), a3.2.2 30 3, r, oc_s, if_pos hg, e1, e2, li300, li100, pk_mul, pk_mul, nI_add, nI_add, f1, bd_s]
    · rw [f5 _ _ (by omega) (by omega)]; exact d3
end T2
