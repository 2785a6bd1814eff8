/-! THE TEXT: the class's three words read -/
section W2
variable {L : List Nat} {tx : Nat → Nat} {len : Nat}
theorem x_deep {x : gMem} {p : Nat} (h3 : TXX x tx len) (h4 : gI x 30 2 = nI p) (h5 : p ≤ len) : ∃ x', f_X4_skipAll0 L x = some ((if (rdW tx len wDeep 5 0 p).1 = true then 1 else 0), x') ∧ gI x' 30 2 = nI (rdW tx len wDeep 5 0 p).2 ∧ okR x x' ∧ (rdW tx len wDeep 5 0 p).2 ≤ len :=
  x_word (S := s_X4_skipAll0_4 L) (fun _ _ _ _ => rfl) wl0 wc0 (by decide) 5 0 1000 x p rfl (by decide) h3 h4 h5
theorem x_creak {x : gMem} {p : Nat} (h3 : TXX x tx len) (h4 : gI x 30 2 = nI p) (h5 : p ≤ len) : ∃ x', f_X4_skipAll1 L x = some ((if (rdW tx len wCreak 6 0 p).1 = true then 1 else 0), x') ∧ gI x' 30 2 = nI (rdW tx len wCreak 6 0 p).2 ∧ okR x x' ∧ (rdW tx len wCreak 6 0 p).2 ≤ len :=
  x_word (S := s_X4_skipAll1_4 L) (fun _ _ _ _ => rfl) wl1 wc1 (by decide) 6 0 1000 x p rfl (by decide) h3 h4 h5
theorem x_hush {x : gMem} {p : Nat} (h3 : TXX x tx len) (h4 : gI x 30 2 = nI p) (h5 : p ≤ len) : ∃ x', f_X4_skipAll2 L x = some ((if (rdW tx len wHush 5 0 p).1 = true then 1 else 0), x') ∧ gI x' 30 2 = nI (rdW tx len wHush 5 0 p).2 ∧ okR x x' ∧ (rdW tx len wHush 5 0 p).2 ≤ len :=
  x_word (S := s_X4_skipAll2_4 L) (fun _ _ _ _ => rfl) wl2 wc2 (by decide) 5 0 1000 x p rfl (by decide) h3 h4 h5
end W2
