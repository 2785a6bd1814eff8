/-! THE TEXT: one test -/
/-- where it stops, and letter, relation, number, if it is one -/
def rdT (tx : Nat → Nat) (len p : Nat) : Option (Nat × Nat × Nat) × Nat := if plc (sg tx len p) = 6 then (none, p) else if rlc (sg tx len (p + 1)) = 3 then (none, p + 1) else match rdN tx len (p + 2) with
  | none => (none, p + 2)
  | some (v, q) => (some (plc (sg tx len p), rlc (sg tx len (p + 1)), v), q)
/-- what a row of codes gets -/
def okG (g : Nat) (x x' : gMem) : Prop := (∀ o k, ¬ (o = 30 ∧ k = 2) → ¬ (o = g ∧ k = 5) → o ≠ g + 4 → gI x' o k = gI x o k) ∧ (∀ o k, gJ x' o k = gJ x o k) ∧ ∀ o k, gR x' o k = gR x o k
theorem pl6_le {n k : Nat} (h : k ≤ n) (hn : n < 100) : (0 ≤ pl6 n k) = (k ≠ n) := by
  unfold pl6
  by_cases q : k = n
  · rw [if_pos q]; exact propext ⟨fun z => absurd z (by decide), fun z => absurd q z⟩
  · rw [if_neg q]; exact propext ⟨fun _ => q, fun _ => nI_pos' (by omega)⟩
theorem plc_le (c : Nat) : plc c ≤ 6 := by unfold plc; repeat (first | (split; omega) | omega)
theorem rlc_le (c : Nat) : rlc c ≤ 3 := by unfold rlc; split <;> omega
section T1
variable {L : List Nat} {x m : gMem} {tx : Nat → Nat} {len p g n : Nat}
theorem x_addCode {c : Int32} (e : gI x g 5 = nI n) (hn : n < 100) : ∃ x', f_X3_addCode L x g c = some x' ∧ gI x' g 5 = nI (n + 1) ∧ gI x' (g + 4) n = c ∧ (∀ k, k ≠ n → gI x' (g + 4) k = gI x (g + 4) k) ∧ (∀ o k, ¬ (o = g ∧ k = 5) → o ≠ g + 4 → gI x' o k = gI x o k) ∧ (∀ o k, gJ x' o k = gJ x o k) ∧ ∀ o k, gR x' o k = gR x o k := by
  refine ⟨gsI (gsI x (g + 4) n c) g 5 (nI (n + 1)), ?_, gI_y ⟨rfl, rfl⟩, by rw [gI_n (by omega), gI_y ⟨rfl, rfl⟩], fun k hk => by rw [gI_n (by omega), gI_n (by omega)], fun o k q r => by rw [gI_n (by omega), gI_n (by omega)], fun _ _ => rfl, fun _ _ => rfl⟩
  unfold f_X3_addCode
  rw [e, if_neg (nI_pos (by omega)), if_neg (show ¬ (100 : Int32) ≤ nI n from nI_ge (b := 100) hn (by decide)), if_pos (okN hn (by decide)), ixN (by omega), lt1_s, gI_n (by omega), e, nI_1, lt1_s]
end T1
