/-! the numbers and shapes of the objects: the class (X), the reference (M) -/
def tabX : List gShp := [(0, 11, [12, 22, 0, 3, 4, 0, 32, 34, 1, 5, 6, 7, 8]), (6, 4, []), (5, 6, []), (1, 6, []), (1, 6, []), (7, 6, []), (4, 60, []), (0, 0, []), (0, 0, []), (0, 0, []), (0, 2, [13, 0, 0, 0, 0, 0, 0, 14, 0, 15, 16, 17, 0, 18, 0, 1, 19]), (1, 12, []), (1, 12, []), (1, 6, []), (1, 6, []), (1, 6, []), (1, 12, []), (1, 6, []), (0, 0, []), (0, 0, []), (0, 2, [23, 0, 0, 0, 0, 0, 0, 24, 0, 25, 26, 27, 0, 28, 0, 1, 29]), (1, 12, []), (1, 12, []), (1, 6, []), (1, 6, []), (1, 6, []), (1, 12, []), (1, 6, []), (0, 0, []), (0, 0, []), (0, 4, [33, 0, 0, 1]), (2, 100, []), (0, 10, [35, 36, 0, 0, 37, 0, 0, 0, 0, 0]), (1, 144, []), (1, 12, []), (1, 372, []), (0, 0, []), (0, 0, []), (0, 0, []), (0, 0, []), (0, 0, []), (0, 0, []), (0, 0, []), (0, 0, []), (0, 0, []), (0, 0, []), (0, 0, []), (0, 0, []), (0, 0, []), (0, 0, []), (4, 60, []), (4, 60, []), (4, 60, []), (4, 60, []), (4, 60, []), (4, 60, []), (0, 0, []), (0, 0, []), (0, 0, []), (0, 0, []), (0, 3, [0, 63, 64, 65, 66, 0]), (1, 10, []), (1, 10, []), (1, 10, []), (1, 100, []), (0, 3, [0, 68, 69, 70, 71, 0]), (1, 10, []), (1, 10, []), (1, 10, []), (1, 100, []), (0, 3, [0, 73, 74, 75, 76, 0]), (1, 10, []), (1, 10, []), (1, 10, []), (1, 100, []), (0, 3, [0, 78, 79, 80, 81, 0]), (1, 10, []), (1, 10, []), (1, 10, []), (1, 100, []), (0, 3, [0, 83, 84, 85, 86, 0]), (1, 10, []), (1, 10, []), (1, 10, []), (1, 100, []), (0, 3, [0, 88, 89, 90, 91, 0]), (1, 10, []), (1, 10, []), (1, 10, []), (1, 100, [])]
def LX0 : List Nat := [0, 1, 2, 3, 4, 5, 6, 10, 11, 12, 13, 14, 15, 16, 17, 20, 21, 22, 23, 24, 25, 26, 27, 30, 31, 32, 33, 34, 35, 50, 51, 52, 53, 54, 55, 60, 61, 62, 63, 64, 65, 66, 67, 68, 69, 70, 71, 72, 73, 74, 75, 76, 77, 78, 79, 80, 81, 82, 83, 84, 85, 86, 87, 88, 89]
/-- the kinds' classes -/
def kci : Nat → Nat
  | 0 => 9
  | 1 => 1
  | 2 => 6
  | 3 => 5
  | 4 => 7
  | 5 => 0
  | _ => 8
abbrev wkd (w : Nat) : Nat := w / 4 % 8
def wFs (w : Nat) : List Nat := 0 :: 0 :: 0 :: 0 :: (w + 1 + 2) :: 0 :: (if wkd w = 6 then [w + 2 + 2, w + 3 + 2] else [])
def shX (o : Nat) : gShp := if o < 128 then tabX.getD o (0, 0, []) else match o % 4 with
  | 0 => (0, kci (wkd o), wFs o)
  | 1 => (1, 20, [])
  | _ => (1, 4, [])
/-- a WALKER: its number, all its cells there -/
abbrev wok (L : List Nat) (w : Nat) : Prop := 128 ≤ w ∧ w % 4 = 0 ∧ wkd w < 7 ∧ w ∈ L ∧ w + 1 ∈ L ∧ (wkd w = 6 → w + 2 ∈ L ∧ w + 3 ∈ L)
theorem sW0 {L : List Nat} {w : Nat} (h : wok L w) : shX w = (0, kci (wkd w), wFs w) := by
  unfold shX; rw [if_neg (by omega), h.2.1]; rfl
theorem sW1 {L : List Nat} {w : Nat} (h : wok L w) : shX (w + 1) = (1, 20, []) := by
  unfold shX; rw [if_neg (by omega), show (w + 1) % 4 = 1 by have := h.2.1; omega]; rfl
theorem sW2 {L : List Nat} {w : Nat} (h : wok L w) : shX (w + 2) = (1, 4, []) := by
  unfold shX; rw [if_neg (by omega), show (w + 2) % 4 = 2 by have := h.2.1; omega]; rfl
theorem sW3 {L : List Nat} {w : Nat} (h : wok L w) : shX (w + 3) = (1, 4, []) := by
  unfold shX; rw [if_neg (by omega), show (w + 3) % 4 = 3 by have := h.2.1; omega]; rfl
theorem sWk {L : List Nat} {w k : Nat} (h : wok L w) (hk : wkd w = k) : shX w = (0, kci k, wFs w) := by rw [sW0 h, hk]
/-- a told one -/
theorem sWT {L : List Nat} {w : Nat} (h : wok L w) (hk : wkd w = 6) : shX w = (0, 8, [0, 0, 0, 0, w + 1 + 2, 0, w + 2 + 2, w + 3 + 2]) := by
  rw [sW0 h, hk, wFs, if_pos hk]; rfl
/-- a NIGHT -/
abbrev isN (g : Nat) : Prop := g ∈ [60, 65, 70, 75, 80, 85]
abbrev isT (g : Nat) : Prop := g ∈ [50, 51, 52, 53, 54, 55]
theorem isN_all {P : Nat → Prop} {g : Nat} (h : isN g) (h0 : P 60) (h1 : P 65) (h2 : P 70) (h3 : P 75) (h4 : P 80) (h5 : P 85) : P g := by
  simp only [isN, List.mem_cons, List.not_mem_nil, or_false] at h
  rcases h with rfl | rfl | rfl | rfl | rfl | rfl <;> assumption
theorem isT_all {P : Nat → Prop} {g : Nat} (h : isT g) (h0 : P 50) (h1 : P 51) (h2 : P 52) (h3 : P 53) (h4 : P 54) (h5 : P 55) : P g := by
  simp only [isT, List.mem_cons, List.not_mem_nil, or_false] at h
  rcases h with rfl | rfl | rfl | rfl | rfl | rfl <;> assumption
theorem sN0 {g : Nat} (h : isN g) : shX g = (0, 3, [0, g + 1 + 2, g + 2 + 2, g + 3 + 2, g + 4 + 2, 0]) := isN_all (P := fun g => shX g = (0, 3, [0, g + 1 + 2, g + 2 + 2, g + 3 + 2, g + 4 + 2, 0])) h rfl rfl rfl rfl rfl rfl
theorem sN1 {g : Nat} (h : isN g) : shX (g + 1) = (1, 10, []) := isN_all (P := fun g => shX (g + 1) = (1, 10, [])) h rfl rfl rfl rfl rfl rfl
theorem sN2 {g : Nat} (h : isN g) : shX (g + 2) = (1, 10, []) := isN_all (P := fun g => shX (g + 2) = (1, 10, [])) h rfl rfl rfl rfl rfl rfl
theorem sN3 {g : Nat} (h : isN g) : shX (g + 3) = (1, 10, []) := isN_all (P := fun g => shX (g + 3) = (1, 10, [])) h rfl rfl rfl rfl rfl rfl
theorem sN4 {g : Nat} (h : isN g) : shX (g + 4) = (1, 100, []) := isN_all (P := fun g => shX (g + 4) = (1, 100, [])) h rfl rfl rfl rfl rfl rfl
theorem sT0 {g : Nat} (h : isT g) : shX g = (4, 60, []) := isT_all (P := fun g => shX g = (4, 60, [])) h rfl rfl rfl rfl rfl rfl
theorem mN {g : Nat} (h : isN g) {k : Nat} (hk : k < 5) : g + k ∈ LX0 := by
  refine isN_all (P := fun g => g + k ∈ LX0) h ?_ ?_ ?_ ?_ ?_ ?_ <;> (rcases (show k = 0 ∨ k = 1 ∨ k = 2 ∨ k = 3 ∨ k = 4 by omega) with rfl | rfl | rfl | rfl | rfl <;> decide)
theorem mT {g : Nat} (h : isT g) : g ∈ LX0 := isT_all (P := fun g => g ∈ LX0) h (by decide) (by decide) (by decide) (by decide) (by decide) (by decide)
theorem sX0 : shX 0 = (0, 11, [12, 22, 0, 3, 4, 0, 32, 34, 1, 5, 6, 7, 8]) := rfl
theorem mX0 : 0 ∈ LX0 := by decide
theorem sX1 : shX 1 = (6, 4, []) := rfl
theorem mX1 : 1 ∈ LX0 := by decide
theorem sX2 : shX 2 = (5, 6, []) := rfl
theorem mX2 : 2 ∈ LX0 := by decide
theorem sX3 : shX 3 = (1, 6, []) := rfl
theorem mX3 : 3 ∈ LX0 := by decide
theorem sX4 : shX 4 = (1, 6, []) := rfl
theorem mX4 : 4 ∈ LX0 := by decide
theorem sX5 : shX 5 = (7, 6, []) := rfl
theorem mX5 : 5 ∈ LX0 := by decide
theorem sX6 : shX 6 = (4, 60, []) := rfl
theorem mX6 : 6 ∈ LX0 := by decide
theorem sX10 : shX 10 = (0, 2, [13, 0, 0, 0, 0, 0, 0, 14, 0, 15, 16, 17, 0, 18, 0, 1, 19]) := rfl
theorem mX10 : 10 ∈ LX0 := by decide
theorem sX11 : shX 11 = (1, 12, []) := rfl
theorem mX11 : 11 ∈ LX0 := by decide
theorem sX12 : shX 12 = (1, 12, []) := rfl
theorem mX12 : 12 ∈ LX0 := by decide
theorem sX13 : shX 13 = (1, 6, []) := rfl
theorem mX13 : 13 ∈ LX0 := by decide
theorem sX14 : shX 14 = (1, 6, []) := rfl
theorem mX14 : 14 ∈ LX0 := by decide
theorem sX15 : shX 15 = (1, 6, []) := rfl
theorem mX15 : 15 ∈ LX0 := by decide
theorem sX16 : shX 16 = (1, 12, []) := rfl
theorem mX16 : 16 ∈ LX0 := by decide
theorem sX17 : shX 17 = (1, 6, []) := rfl
theorem mX17 : 17 ∈ LX0 := by decide
theorem sX20 : shX 20 = (0, 2, [23, 0, 0, 0, 0, 0, 0, 24, 0, 25, 26, 27, 0, 28, 0, 1, 29]) := rfl
theorem mX20 : 20 ∈ LX0 := by decide
theorem sX21 : shX 21 = (1, 12, []) := rfl
theorem mX21 : 21 ∈ LX0 := by decide
theorem sX22 : shX 22 = (1, 12, []) := rfl
theorem mX22 : 22 ∈ LX0 := by decide
theorem sX23 : shX 23 = (1, 6, []) := rfl
theorem mX23 : 23 ∈ LX0 := by decide
theorem sX24 : shX 24 = (1, 6, []) := rfl
theorem mX24 : 24 ∈ LX0 := by decide
theorem sX25 : shX 25 = (1, 6, []) := rfl
theorem mX25 : 25 ∈ LX0 := by decide
theorem sX26 : shX 26 = (1, 12, []) := rfl
theorem mX26 : 26 ∈ LX0 := by decide
theorem sX27 : shX 27 = (1, 6, []) := rfl
theorem mX27 : 27 ∈ LX0 := by decide
theorem sX30 : shX 30 = (0, 4, [33, 0, 0, 1]) := rfl
theorem mX30 : 30 ∈ LX0 := by decide
theorem sX31 : shX 31 = (2, 100, []) := rfl
theorem mX31 : 31 ∈ LX0 := by decide
theorem sX32 : shX 32 = (0, 10, [35, 36, 0, 0, 37, 0, 0, 0, 0, 0]) := rfl
theorem mX32 : 32 ∈ LX0 := by decide
theorem sX33 : shX 33 = (1, 144, []) := rfl
theorem mX33 : 33 ∈ LX0 := by decide
theorem sX34 : shX 34 = (1, 12, []) := rfl
theorem mX34 : 34 ∈ LX0 := by decide
theorem sX35 : shX 35 = (1, 372, []) := rfl
theorem mX35 : 35 ∈ LX0 := by decide
theorem sX50 : shX 50 = (4, 60, []) := rfl
theorem mX50 : 50 ∈ LX0 := by decide
theorem sX51 : shX 51 = (4, 60, []) := rfl
theorem mX51 : 51 ∈ LX0 := by decide
theorem sX52 : shX 52 = (4, 60, []) := rfl
theorem mX52 : 52 ∈ LX0 := by decide
theorem sX53 : shX 53 = (4, 60, []) := rfl
theorem mX53 : 53 ∈ LX0 := by decide
theorem sX54 : shX 54 = (4, 60, []) := rfl
theorem mX54 : 54 ∈ LX0 := by decide
theorem sX55 : shX 55 = (4, 60, []) := rfl
theorem mX55 : 55 ∈ LX0 := by decide
theorem sX60 : shX 60 = (0, 3, [0, 63, 64, 65, 66, 0]) := rfl
theorem mX60 : 60 ∈ LX0 := by decide
theorem sX61 : shX 61 = (1, 10, []) := rfl
theorem mX61 : 61 ∈ LX0 := by decide
theorem sX62 : shX 62 = (1, 10, []) := rfl
theorem mX62 : 62 ∈ LX0 := by decide
theorem sX63 : shX 63 = (1, 10, []) := rfl
theorem mX63 : 63 ∈ LX0 := by decide
theorem sX64 : shX 64 = (1, 100, []) := rfl
theorem mX64 : 64 ∈ LX0 := by decide
theorem sX65 : shX 65 = (0, 3, [0, 68, 69, 70, 71, 0]) := rfl
theorem mX65 : 65 ∈ LX0 := by decide
theorem sX66 : shX 66 = (1, 10, []) := rfl
theorem mX66 : 66 ∈ LX0 := by decide
theorem sX67 : shX 67 = (1, 10, []) := rfl
theorem mX67 : 67 ∈ LX0 := by decide
theorem sX68 : shX 68 = (1, 10, []) := rfl
theorem mX68 : 68 ∈ LX0 := by decide
theorem sX69 : shX 69 = (1, 100, []) := rfl
theorem mX69 : 69 ∈ LX0 := by decide
theorem sX70 : shX 70 = (0, 3, [0, 73, 74, 75, 76, 0]) := rfl
theorem mX70 : 70 ∈ LX0 := by decide
theorem sX71 : shX 71 = (1, 10, []) := rfl
theorem mX71 : 71 ∈ LX0 := by decide
theorem sX72 : shX 72 = (1, 10, []) := rfl
theorem mX72 : 72 ∈ LX0 := by decide
theorem sX73 : shX 73 = (1, 10, []) := rfl
theorem mX73 : 73 ∈ LX0 := by decide
theorem sX74 : shX 74 = (1, 100, []) := rfl
theorem mX74 : 74 ∈ LX0 := by decide
theorem sX75 : shX 75 = (0, 3, [0, 78, 79, 80, 81, 0]) := rfl
theorem mX75 : 75 ∈ LX0 := by decide
theorem sX76 : shX 76 = (1, 10, []) := rfl
theorem mX76 : 76 ∈ LX0 := by decide
theorem sX77 : shX 77 = (1, 10, []) := rfl
theorem mX77 : 77 ∈ LX0 := by decide
theorem sX78 : shX 78 = (1, 10, []) := rfl
theorem mX78 : 78 ∈ LX0 := by decide
theorem sX79 : shX 79 = (1, 100, []) := rfl
theorem mX79 : 79 ∈ LX0 := by decide
theorem sX80 : shX 80 = (0, 3, [0, 83, 84, 85, 86, 0]) := rfl
theorem mX80 : 80 ∈ LX0 := by decide
theorem sX81 : shX 81 = (1, 10, []) := rfl
theorem mX81 : 81 ∈ LX0 := by decide
theorem sX82 : shX 82 = (1, 10, []) := rfl
theorem mX82 : 82 ∈ LX0 := by decide
theorem sX83 : shX 83 = (1, 10, []) := rfl
theorem mX83 : 83 ∈ LX0 := by decide
theorem sX84 : shX 84 = (1, 100, []) := rfl
theorem mX84 : 84 ∈ LX0 := by decide
theorem sX85 : shX 85 = (0, 3, [0, 88, 89, 90, 91, 0]) := rfl
theorem mX85 : 85 ∈ LX0 := by decide
theorem sX86 : shX 86 = (1, 10, []) := rfl
theorem mX86 : 86 ∈ LX0 := by decide
theorem sX87 : shX 87 = (1, 10, []) := rfl
theorem mX87 : 87 ∈ LX0 := by decide
theorem sX88 : shX 88 = (1, 10, []) := rfl
theorem mX88 : 88 ∈ LX0 := by decide
theorem sX89 : shX 89 = (1, 100, []) := rfl
theorem mX89 : 89 ∈ LX0 := by decide
def tabM : List gShp := [(0, 12, [0, 0, 0, 0, 0, 0, 3, 4, 5, 6, 7, 0, 0, 0, 0, 0, 8, 9, 10, 11, 12, 13, 14, 15, 0, 0, 0, 16, 17, 0, 0, 18, 0, 0, 0, 19, 20, 21, 22, 0, 0, 0, 23, 24, 25, 0, 26, 0, 0, 0, 0, 0, 0, 0, 0, 0, 0, 0, 27, 28, 29, 30, 31, 32, 33, 34, 35, 36, 0, 37, 38, 39, 40, 41]), (1, 12, []), (1, 4, []), (1, 4, []), (1, 4, []), (1, 16, []), (1, 100, []), (1, 6, []), (1, 60, []), (1, 60, []), (1, 60, []), (1, 60, []), (1, 600, []), (1, 101, []), (1, 13, []), (3, 100, []), (1, 12, []), (1, 396, []), (1, 9, []), (1, 9, []), (1, 9, []), (1, 6, []), (1, 6, []), (3, 6, []), (1, 12, []), (1, 12, []), (1, 4, []), (1, 4, []), (1, 4, []), (1, 16, []), (1, 12, []), (1, 6, []), (1, 6, []), (1, 12, []), (3, 6, []), (1, 20, []), (1, 6, []), (1, 6, []), (4, 360, []), (4, 60, [])]
def LM0 : List Nat := List.range 40
def shM (o : Nat) : gShp := tabM.getD o (0, 0, [])
theorem sM0 : shM 0 = (0, 12, [0, 0, 0, 0, 0, 0, 3, 4, 5, 6, 7, 0, 0, 0, 0, 0, 8, 9, 10, 11, 12, 13, 14, 15, 0, 0, 0, 16, 17, 0, 0, 18, 0, 0, 0, 19, 20, 21, 22, 0, 0, 0, 23, 24, 25, 0, 26, 0, 0, 0, 0, 0, 0, 0, 0, 0, 0, 0, 27, 28, 29, 30, 31, 32, 33, 34, 35, 36, 0, 37, 38, 39, 40, 41]) := rfl
theorem mM0 : 0 ∈ LM0 := by decide
theorem sM1 : shM 1 = (1, 12, []) := rfl
theorem mM1 : 1 ∈ LM0 := by decide
theorem sM2 : shM 2 = (1, 4, []) := rfl
theorem mM2 : 2 ∈ LM0 := by decide
theorem sM3 : shM 3 = (1, 4, []) := rfl
theorem mM3 : 3 ∈ LM0 := by decide
theorem sM4 : shM 4 = (1, 4, []) := rfl
theorem mM4 : 4 ∈ LM0 := by decide
theorem sM5 : shM 5 = (1, 16, []) := rfl
theorem mM5 : 5 ∈ LM0 := by decide
theorem sM6 : shM 6 = (1, 100, []) := rfl
theorem mM6 : 6 ∈ LM0 := by decide
theorem sM7 : shM 7 = (1, 6, []) := rfl
theorem mM7 : 7 ∈ LM0 := by decide
theorem sM8 : shM 8 = (1, 60, []) := rfl
theorem mM8 : 8 ∈ LM0 := by decide
theorem sM9 : shM 9 = (1, 60, []) := rfl
theorem mM9 : 9 ∈ LM0 := by decide
theorem sM10 : shM 10 = (1, 60, []) := rfl
theorem mM10 : 10 ∈ LM0 := by decide
theorem sM11 : shM 11 = (1, 60, []) := rfl
theorem mM11 : 11 ∈ LM0 := by decide
theorem sM12 : shM 12 = (1, 600, []) := rfl
theorem mM12 : 12 ∈ LM0 := by decide
theorem sM13 : shM 13 = (1, 101, []) := rfl
theorem mM13 : 13 ∈ LM0 := by decide
theorem sM14 : shM 14 = (1, 13, []) := rfl
theorem mM14 : 14 ∈ LM0 := by decide
theorem sM15 : shM 15 = (3, 100, []) := rfl
theorem mM15 : 15 ∈ LM0 := by decide
theorem sM16 : shM 16 = (1, 12, []) := rfl
theorem mM16 : 16 ∈ LM0 := by decide
theorem sM17 : shM 17 = (1, 396, []) := rfl
theorem mM17 : 17 ∈ LM0 := by decide
theorem sM18 : shM 18 = (1, 9, []) := rfl
theorem mM18 : 18 ∈ LM0 := by decide
theorem sM19 : shM 19 = (1, 9, []) := rfl
theorem mM19 : 19 ∈ LM0 := by decide
theorem sM20 : shM 20 = (1, 9, []) := rfl
theorem mM20 : 20 ∈ LM0 := by decide
theorem sM21 : shM 21 = (1, 6, []) := rfl
theorem mM21 : 21 ∈ LM0 := by decide
theorem sM22 : shM 22 = (1, 6, []) := rfl
theorem mM22 : 22 ∈ LM0 := by decide
theorem sM23 : shM 23 = (3, 6, []) := rfl
theorem mM23 : 23 ∈ LM0 := by decide
theorem sM24 : shM 24 = (1, 12, []) := rfl
theorem mM24 : 24 ∈ LM0 := by decide
theorem sM25 : shM 25 = (1, 12, []) := rfl
theorem mM25 : 25 ∈ LM0 := by decide
theorem sM26 : shM 26 = (1, 4, []) := rfl
theorem mM26 : 26 ∈ LM0 := by decide
theorem sM27 : shM 27 = (1, 4, []) := rfl
theorem mM27 : 27 ∈ LM0 := by decide
theorem sM28 : shM 28 = (1, 4, []) := rfl
theorem mM28 : 28 ∈ LM0 := by decide
theorem sM29 : shM 29 = (1, 16, []) := rfl
theorem mM29 : 29 ∈ LM0 := by decide
theorem sM30 : shM 30 = (1, 12, []) := rfl
theorem mM30 : 30 ∈ LM0 := by decide
theorem sM31 : shM 31 = (1, 6, []) := rfl
theorem mM31 : 31 ∈ LM0 := by decide
theorem sM32 : shM 32 = (1, 6, []) := rfl
theorem mM32 : 32 ∈ LM0 := by decide
theorem sM33 : shM 33 = (1, 12, []) := rfl
theorem mM33 : 33 ∈ LM0 := by decide
theorem sM34 : shM 34 = (3, 6, []) := rfl
theorem mM34 : 34 ∈ LM0 := by decide
theorem sM35 : shM 35 = (1, 20, []) := rfl
theorem mM35 : 35 ∈ LM0 := by decide
theorem sM36 : shM 36 = (1, 6, []) := rfl
theorem mM36 : 36 ∈ LM0 := by decide
theorem sM37 : shM 37 = (1, 6, []) := rfl
theorem mM37 : 37 ∈ LM0 := by decide
theorem sM38 : shM 38 = (4, 360, []) := rfl
theorem mM38 : 38 ∈ LM0 := by decide
theorem sM39 : shM 39 = (4, 60, []) := rfl
theorem mM39 : 39 ∈ LM0 := by decide
def gYes : List (String × String) := [(RX7, RX1), (RX0, RX6), (RX8, RX5), (RX1, RX9), (RX6, RX9), (RX5, RX9), (RX7, RX9), (RX0, RX9), (RX8, RX9)]
def gNo : List (String × String) := [(RX9, RX1), (RX9, RX6), (RX9, RX5), (RX9, RX7), (RX9, RX0), (RX9, RX8), (RX1, RX6), (RX1, RX5), (RX1, RX7), (RX1, RX0), (RX1, RX8), (RX6, RX1), (RX6, RX5), (RX6, RX7), (RX6, RX0), (RX6, RX8), (RX5, RX1), (RX5, RX6), (RX5, RX7), (RX5, RX0), (RX5, RX8), (RX7, RX6), (RX7, RX5), (RX7, RX0), (RX7, RX8), (RX0, RX1), (RX0, RX5), (RX0, RX7), (RX0, RX8), (RX8, RX1), (RX8, RX6), (RX8, RX7), (RX8, RX0)]
/-- what a method asks beside its world -/
def gEok (ad : Nat → Nat) (L : List Nat) (E : State → Prop) : Prop := (∀ s : State, E s → gX (gA ad L) s E) ∧ eBl E ∧ (∀ s : State, E s → gN gYes gNo s)
theorem gF_of {ad : Nat → Nat} {L : List Nat} (hk : gOk ad L) : gF ad L (gA ad L) := ⟨hk, fun o ho => ⟨o, ho, rfl⟩⟩
theorem oc_e {α β : Type} {x : Option α} {Y : α → Option β} {r : β} (h : oc x none Y = some r) : ∃ y, x = some y ∧ Y y = some r := by
  cases x with
  | none => cases h
  | some y => exact ⟨y, rfl, h⟩
def bd2 {α β γ : Type} (a : Option (α × β)) (k : α → β → Option γ) : Option γ := match a with | none => none | some x => k x.1 x.2
theorem bd2_e {α β γ : Type} {a : Option (α × β)} {k : α → β → Option γ} {r : γ} (h : bd2 a k = some r) : ∃ x y, a = some (x, y) ∧ k x y = some r := by
  cases a with
  | none => cases h
  | some x => exact ⟨x.1, x.2, rfl, h⟩
theorem ne_ti {x v : Int32} {z : Int} (hv : v.toInt = z) (h : ¬ x = v) : x.toInt ≠ z := fun e => h (Int32.toInt_inj.mp (e.trans hv.symm))
/-- all of one array into another one -/
def gcp (m : gMem) (a b n : Nat) : gMem := (fun o k => if o = b ∧ k < n then m.1 a k else m.1 o k, m.2)
theorem gI_cp (m : gMem) (a b n o k : Nat) : gI (gcp m a b n) o k = if o = b ∧ k < n then gI m a k else gI m o k := rfl
theorem gJ_cp (m : gMem) (a b n o k : Nat) : gJ (gcp m a b n) o k = gJ m o k := rfl
theorem gR_cp (m : gMem) (a b n o k : Nat) : gR (gcp m a b n) o k = gR m o k := rfl
