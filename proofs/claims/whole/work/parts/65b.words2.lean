/-! THE TEXT: the three words of the class -/
def wDeep (i : Nat) : Nat := [100, 101, 101, 112, 32].getD i 0
def wCreak (i : Nat) : Nat := [99, 114, 101, 97, 107, 32].getD i 0
def wHush (i : Nat) : Nat := [104, 117, 115, 104, 32].getD i 0
theorem wl0 : f_J0_length_8abf5 0 = some (nI 5) := by decide +kernel
theorem wl1 : f_J0_length_8abf5 1 = some (nI 6) := by decide +kernel
theorem wl2 : f_J0_length_8abf5 2 = some (nI 5) := by decide +kernel
theorem wc0 : ∀ i, i < 5 → f_J0_charAt_5068e 0 (nI i) = some (nI (wDeep i)) ∧ wDeep i < 200 := by decide +kernel
theorem wc1 : ∀ i, i < 6 → f_J0_charAt_5068e 1 (nI i) = some (nI (wCreak i)) ∧ wCreak i < 200 := by decide +kernel
theorem wc2 : ∀ i, i < 5 → f_J0_charAt_5068e 2 (nI i) = some (nI (wHush i)) ∧ wHush i < 200 := by decide +kernel
