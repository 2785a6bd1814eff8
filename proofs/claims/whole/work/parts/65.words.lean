/-! THE TEXT: words -/
/-- whether the signs of w from i on are there, and where it stops -/
def rdW (tx : Nat → Nat) (len : Nat) (w : Nat → Nat) : Nat → Nat → Nat → Bool × Nat
  | 0, _, p => (true, p)
  | d + 1, i, p => if sg tx len p = w i then rdW tx len w d (i + 1) (p + 1) else (false, p)
section W1
variable {L : List Nat} {tx : Nat → Nat} {len : Nat}
theorem sg_in {p c : Nat} (h : sg tx len p = c) (hc : c < 200) : p < len := by
  unfold sg at h
  by_cases q : p < len
  · exact q
  · rw [if_neg q] at h; omega
theorem x_word {S : (Int32 → Int32 → gMem → Option (Int32 × gMem)) → Int32 → Int32 → gMem → Option (Int32 × gMem)} {i0 n : Nat} {w : Nat → Nat} (hS : ∀ F x2 x3 m4, S F x2 x3 m4 = bd (f_J0_length_8abf5 i0) fun (x5 : Int32) => if x5 ≤ x3 then (if isB x2 then some (x2, m4) else none) else if x2 = 0 then (if isB x2 then some (x2, m4) else none) else bd (f_J0_charAt_5068e i0 x3) fun (x6 : Int32) => bd2 (f_X4_skip L m4 x6) fun (x8 : Int32) (m7 : gMem) => lt1 (x3 + (1 : Int32)) fun (x9 : Int32) => F x8 x9 m7) (hl : f_J0_length_8abf5 i0 = some (nI n)) (hw : ∀ i, i < n → f_J0_charAt_5068e i0 (nI i) = some (nI (w i)) ∧ w i < 200) (hn : n ≤ 10) : ∀ (d i fuel : Nat) (x : gMem) (p : Nat), d + i = n → d + 1 < fuel → TXX x tx len → gI x 30 2 = nI p → p ≤ len → ∃ x', lq3 S fuel 1 (nI i) x = some ((if (rdW tx len w d i p).1 = true then 1 else 0), x') ∧ gI x' 30 2 = nI (rdW tx len w d i p).2 ∧ okR x x' ∧ (rdW tx len w d i p).2 ≤ len
  | 0, i, fuel, x, p, h1, h2, h3, h4, h5 => by
    obtain ⟨f, rfl⟩ : ∃ f, fuel = f + 1 := ⟨fuel - 1, by omega⟩
    refine ⟨x, ?_, h4, okR.rfl, h5⟩
    rw [lq3_u, hS, hl, bd_s, if_pos (nI_le (by omega) (by omega)), if_pos (by decide)]
    rfl
  | d + 1, i, fuel, x, p, h1, h2, h3, h4, h5 => by
    obtain ⟨f, rfl⟩ : ∃ f, fuel = f + 1 := ⟨fuel - 1, by omega⟩
    obtain ⟨w1, w2⟩ := hw i (by omega)
    rw [lq3_u, hS, hl, bd_s, if_neg (nI_ge (by omega) (by omega)), if_neg (show ¬ (1 : Int32) = 0 by decide), w1, bd_s, x_skip h3 h4 h5 w2, rdW]
    by_cases q : sg tx len p = w i
    · have hlt := sg_in q w2
      obtain ⟨x', a1, a2, a3, a4⟩ := x_word hS hl hw hn d (i + 1) f (gsI x 30 2 (nI (p + 1))) (p + 1) (by omega) (by omega) (h3.fr (okR.s _ _)) (gI_y ⟨rfl, rfl⟩) (by omega)
      rw [if_pos q, if_pos q, bd2_s, nI_1, lt1_s]
      exact ⟨x', a1, a2, (okR.s _ _).trans a3, a4⟩
    · rw [if_neg q, if_neg q, bd2_s, nI_1, lt1_s]
      obtain ⟨f, rfl⟩ : ∃ g, f = g + 1 := ⟨f - 1, by omega⟩
      refine ⟨x, ?_, h4, okR.rfl, h5⟩
      rw [lq3_u, hS, hl, bd_s, if_pos (show (0 : Int32) = 0 from rfl), if_pos (show isB 0 by decide), ite_self]
      rfl
end W1
