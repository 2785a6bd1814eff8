/-! tools for the printed functions; what the two memories have to do with each other -/
theorem bd_s {α β : Type} (a : α) (k : α → Option β) : bd (some a) k = k a := rfl
theorem bd2_s {α β γ : Type} (a : α) (b : β) (k : α → β → Option γ) : bd2 (some (a, b)) k = k a b := rfl
theorem oc_s {α β : Type} (a : α) (n : β) (k : α → β) : oc (some a) n k = k a := rfl
theorem oc_n {α β : Type} (n : β) (k : α → β) : oc (none : Option α) n k = n := rfl
theorem i_lt (x y : Int32) : (x < y) = (x.toInt < y.toInt) := propext Int32.lt_iff_toInt_lt
theorem i_le (x y : Int32) : (x ≤ y) = (x.toInt ≤ y.toInt) := propext Int32.le_iff_toInt_le
theorem i_eq (x y : Int32) : (x = y) = (x.toInt = y.toInt) := propext Int32.toInt_inj.symm
theorem tneg {k : Nat} (h : k < 2 ^ 31) : (-(nI k)).toInt = -(k : Int) := by
  rw [Int32.toInt_neg, nI_toInt h]
  simp only [Int.bmod]
  split <;> omega
theorem li0 : (0 : Int32) = nI 0 := rfl
theorem li1 : (1 : Int32) = nI 1 := rfl
theorem li2 : (2 : Int32) = nI 2 := rfl
theorem li3 : (3 : Int32) = nI 3 := rfl
theorem li4 : (4 : Int32) = nI 4 := rfl
theorem li5 : (5 : Int32) = nI 5 := rfl
theorem li6 : (6 : Int32) = nI 6 := rfl
theorem li7 : (7 : Int32) = nI 7 := rfl
theorem li8 : (8 : Int32) = nI 8 := rfl
theorem li9 : (9 : Int32) = nI 9 := rfl
theorem li10 : (10 : Int32) = nI 10 := rfl
theorem li11 : (11 : Int32) = nI 11 := rfl
theorem li12 : (12 : Int32) = nI 12 := rfl
theorem li13 : (13 : Int32) = nI 13 := rfl
theorem li14 : (14 : Int32) = nI 14 := rfl
theorem li16 : (16 : Int32) = nI 16 := rfl
theorem li20 : (20 : Int32) = nI 20 := rfl
theorem li21 : (21 : Int32) = nI 21 := rfl
theorem li22 : (22 : Int32) = nI 22 := rfl
theorem li24 : (24 : Int32) = nI 24 := rfl
theorem li30 : (30 : Int32) = nI 30 := rfl
theorem li31 : (31 : Int32) = nI 31 := rfl
theorem li33 : (33 : Int32) = nI 33 := rfl
theorem li38 : (38 : Int32) = nI 38 := rfl
theorem li39 : (39 : Int32) = nI 39 := rfl
theorem li40 : (40 : Int32) = nI 40 := rfl
theorem li41 : (41 : Int32) = nI 41 := rfl
theorem li45 : (45 : Int32) = nI 45 := rfl
theorem li48 : (48 : Int32) = nI 48 := rfl
theorem li50 : (50 : Int32) = nI 50 := rfl
theorem li51 : (51 : Int32) = nI 51 := rfl
theorem li57 : (57 : Int32) = nI 57 := rfl
theorem li58 : (58 : Int32) = nI 58 := rfl
theorem li59 : (59 : Int32) = nI 59 := rfl
theorem li60 : (60 : Int32) = nI 60 := rfl
theorem li61 : (61 : Int32) = nI 61 := rfl
theorem li62 : (62 : Int32) = nI 62 := rfl
theorem li64 : (64 : Int32) = nI 64 := rfl
theorem li70 : (70 : Int32) = nI 70 := rfl
theorem li71 : (71 : Int32) = nI 71 := rfl
theorem li72 : (72 : Int32) = nI 72 := rfl
theorem li99 : (99 : Int32) = nI 99 := rfl
theorem li100 : (100 : Int32) = nI 100 := rfl
theorem li101 : (101 : Int32) = nI 101 := rfl
theorem li104 : (104 : Int32) = nI 104 := rfl
theorem li107 : (107 : Int32) = nI 107 := rfl
theorem li109 : (109 : Int32) = nI 109 := rfl
theorem li116 : (116 : Int32) = nI 116 := rfl
theorem li120 : (120 : Int32) = nI 120 := rfl
theorem li121 : (121 : Int32) = nI 121 := rfl
theorem li124 : (124 : Int32) = nI 124 := rfl
theorem li127 : (127 : Int32) = nI 127 := rfl
theorem li128 : (128 : Int32) = nI 128 := rfl
theorem li144 : (144 : Int32) = nI 144 := rfl
theorem li255 : (255 : Int32) = nI 255 := rfl
theorem li300 : (300 : Int32) = nI 300 := rfl
theorem li360 : (360 : Int32) = nI 360 := rfl
theorem li372 : (372 : Int32) = nI 372 := rfl
theorem li396 : (396 : Int32) = nI 396 := rfl
theorem li600 : (600 : Int32) = nI 600 := rfl
theorem li999 : (999 : Int32) = nI 999 := rfl
theorem li1000 : (1000 : Int32) = nI 1000 := rfl
theorem li9960 : (9960 : Int32) = nI 9960 := rfl
theorem li9990 : (9990 : Int32) = nI 9990 := rfl
theorem li1000000 : (1000000 : Int32) = nI 1000000 := rfl
theorem nI_tI {p : Int32} (h : 0 ≤ p.toInt) : p = nI p.toInt.toNat := by
  apply Int32.toInt_inj.mp
  have := p.toInt_lt
  rw [nI_toInt (by omega)]; omega
/-- an argument: a small number, or beyond -/
theorem p_in (p : Int32) (n : Nat) (hn : n < 2 ^ 31) : (∃ k, k < n ∧ p = nI k) ∨ p.toInt < 0 ∨ (n : Int) ≤ p.toInt := by
  by_cases h : 0 ≤ p.toInt
  · by_cases h2 : p.toInt < n
    · exact Or.inl ⟨p.toInt.toNat, by omega, nI_tI h⟩
    · exact Or.inr (Or.inr (by omega))
  · exact Or.inr (Or.inl (by omega))
theorem x_isBoard (p : Int32) : f_X11_isBoard p = some (if okI p 12 then 1 else 0) := by
  unfold f_X11_isBoard
  rcases p_in p 12 (by decide) with ⟨k, hk, rfl⟩ | h | h <;> simp (disch := omega) only [lt1, jn, bd_s, bd2_s, oc_s, oc_n, li0, li1, li2, li3, li4, li5, li6, li7, li8, li9, li10, li11, li12, li13, li14, li16, li20, li21, li22, li24, li30, li31, li33, li38, li39, li40, li41, li45, li48, li50, li51, li57, li58, li59, li60, li61, li62, li64, li70, li71, li72, li99, li100, li101, li104, li107, li109, li116, li120, li121, li124, li127, li128, li144, li255, li300, li360, li372, li396, li600, li999, li1000, li9960, li9990, li1000000, nI_1, nI_add, pk_sub, pk_mul, pk_div, rem_nI, i_lt, i_le, i_eq, okI, ix, isB, nI_clamp, nI_toInt, tneg, gI_sI, gR_sI, gJ_sI, gI_sR, gR_sR, gJ_sR, gI_sJ, gR_sJ, gJ_sJ, true_and, and_true, false_and, and_false, if_true, if_false, if_pos, if_neg]
theorem m_in (p a b : Int32) : f_X12_in p a b = some (if a.toInt ≤ p.toInt ∧ p.toInt ≤ b.toInt then 1 else 0) := by
  unfold f_X12_in
  simp only [i_lt]
  by_cases h1 : p.toInt < a.toInt
  · rw [if_pos h1, if_neg (by omega)]
  · rw [if_neg h1]
    by_cases h2 : b.toInt < p.toInt
    · rw [if_pos h2, if_neg (by omega)]
    · rw [if_neg h2, if_pos (by omega)]
theorem in_ok (p : Int32) (n : Nat) (a b : Int32) (ha : a.toInt = 0) (hb : b.toInt = (n : Int) - 1) : (if a.toInt ≤ p.toInt ∧ p.toInt ≤ b.toInt then (1 : Int32) else 0) = if okI p n then 1 else 0 := by
  rw [ha, hb]
  by_cases h : okI p n
  · rw [if_pos h, if_pos ⟨h.1, by have := h.2; omega⟩]
  · rw [if_neg h, if_neg (fun q => h ⟨q.1, by have := q.2; omega⟩)]
theorem m_in0 (p b : Int32) (n : Nat) (hb : b.toInt = (n : Int) - 1) : f_X12_in p 0 b = some (if okI p n then 1 else 0) := by
  rw [m_in, in_ok p n _ _ rfl hb]
theorem isB01 (c : Prop) [Decidable c] : isB (if c then 1 else 0) := by
  by_cases h : c
  · rw [if_pos h]; exact Or.inr rfl
  · rw [if_neg h]; exact Or.inl rfl
theorem m_isBoard (p : Int32) : f_X12_isBoard p = some (if okI p 12 then 1 else 0) := by
  unfold f_X12_isBoard
  rw [m_in]
  simp only [bd_s]
  rw [if_pos (isB01 _), in_ok p 12 _ _ rfl rfl]
theorem x_isTape (p : Int32) : f_X11_isTape p = some (if okI p 6 then 1 else 0) := by
  unfold f_X11_isTape
  rcases p_in p 6 (by decide) with ⟨k, hk, rfl⟩ | h | h <;> simp (disch := omega) only [lt1, jn, bd_s, bd2_s, oc_s, oc_n, li0, li1, li2, li3, li4, li5, li6, li7, li8, li9, li10, li11, li12, li13, li14, li16, li20, li21, li22, li24, li30, li31, li33, li38, li39, li40, li41, li45, li48, li50, li51, li57, li58, li59, li60, li61, li62, li64, li70, li71, li72, li99, li100, li101, li104, li107, li109, li116, li120, li121, li124, li127, li128, li144, li255, li300, li360, li372, li396, li600, li999, li1000, li9960, li9990, li1000000, nI_1, nI_add, pk_sub, pk_mul, pk_div, rem_nI, i_lt, i_le, i_eq, okI, ix, isB, nI_clamp, nI_toInt, tneg, gI_sI, gR_sI, gJ_sI, gI_sR, gR_sR, gJ_sR, gI_sJ, gR_sJ, gJ_sJ, true_and, and_true, false_and, and_false, if_true, if_false, if_pos, if_neg]
theorem m_isTape (p : Int32) : f_X12_isTape p = some (if okI p 6 then 1 else 0) := by
  unfold f_X12_isTape
  rw [m_in]
  simp only [bd_s]
  rw [if_pos (isB01 _), in_ok p 6 _ _ rfl rfl]
/-- what asking may change -/
def scX (o k : Nat) : Prop := o = 6 ∨ o = 17 ∨ o = 27 ∨ (32 ≤ o ∧ o ≤ 35)
def scM (o k : Nat) : Prop := o = 13 ∨ o = 15 ∨ (17 ≤ o ∧ o ≤ 20) ∨ o = 39 ∨ (o = 0 ∧ ((32 ≤ k ∧ k ≤ 34) ∨ k = 39 ∨ k = 40))
def frI (D : Nat → Nat → Prop) (x x' : gMem) : Prop := ∀ o k, D o k → gI x' o k = gI x o k
def frJ (D : Nat → Nat → Prop) (x x' : gMem) : Prop := ∀ o k, D o k → gJ x' o k = gJ x o k
def frR (D : Nat → Nat → Prop) (x x' : gMem) : Prop := ∀ o k, D o k → gR x' o k = gR x o k
def agX (x x' : gMem) : Prop := (∀ o k, ¬ (o = 6 ∨ o = 17 ∨ o = 27 ∨ (32 ≤ o ∧ o ≤ 35)) → gI x' o k = gI x o k) ∧ (∀ o k, o ≠ 6 → gJ x' o k = gJ x o k) ∧ ∀ o k, gR x' o k = gR x o k
def agM (m m' : gMem) : Prop := (∀ o k, ¬ (o = 13 ∨ o = 15 ∨ (17 ≤ o ∧ o ≤ 20) ∨ o = 39 ∨ (o = 0 ∧ ((32 ≤ k ∧ k ≤ 34) ∨ k = 39 ∨ k = 40))) → gI m' o k = gI m o k) ∧ (∀ o k, o ≠ 39 → gJ m' o k = gJ m o k) ∧ ∀ o k, gR m' o k = gR m o k
theorem agX.rfl {x : gMem} : agX x x := ⟨fun _ _ _ => Eq.refl _, fun _ _ _ => Eq.refl _, fun _ _ => Eq.refl _⟩
theorem agM.rfl {x : gMem} : agM x x := ⟨fun _ _ _ => Eq.refl _, fun _ _ _ => Eq.refl _, fun _ _ => Eq.refl _⟩
theorem agX.trans {x y z : gMem} (h1 : agX x y) (h2 : agX y z) : agX x z := ⟨fun o k h => (h2.1 o k h).trans (h1.1 o k h), fun o k h => (h2.2.1 o k h).trans (h1.2.1 o k h), fun o k => (h2.2.2 o k).trans (h1.2.2 o k)⟩
theorem agM.trans {x y z : gMem} (h1 : agM x y) (h2 : agM y z) : agM x z := ⟨fun o k h => (h2.1 o k h).trans (h1.1 o k h), fun o k h => (h2.2.1 o k h).trans (h1.2.1 o k h), fun o k => (h2.2.2 o k).trans (h1.2.2 o k)⟩
/-- the clauses of a NIGHT: a word, its number, its program -/
abbrev cls : Type := Nat × (Nat × List tok)
def clen : List cls → Nat
  | [] => 0
  | c :: r => c.2.2.length + clen r
def clsOk (c : cls) : Prop := c.1 < 3 ∧ c.2.1 < 100 ∧ (∀ t ∈ c.2.2, tkok t) ∧ hgt 20 c.2.2 0 = some 1
/-- the clauses from the i-th on; the first begins at place st -/
def nOK (x m : gMem) (g : Nat) : Nat → Nat → List cls → Prop
  | _, _, [] => True
  | i, st, c :: r => (gI x (60 + 5 * g + 1) i = nI c.1 ∧ gI m 8 (10 * g + i) = nI c.1 ∧ gI x (60 + 5 * g + 2) i = nI c.2.1 ∧ gI m 9 (10 * g + i) = nI c.2.1 ∧ gI x (60 + 5 * g + 3) i = nI (st + c.2.2.length) ∧ gI m 10 (10 * g + i) = nI (100 * g + st) ∧ gI m 11 (10 * g + i) = nI (100 * g + st + c.2.2.length) ∧ clsOk c ∧ ∀ j (hj : j < c.2.2.length), gI x (60 + 5 * g + 4) (st + j) = tkX c.2.2[j] ∧ gI m 12 (100 * g + st + j) = tkM c.2.2[j]) ∧ nOK x m g (i + 1) (st + c.2.2.length) r
def ntOK (x m : gMem) (g : Nat) (P : List cls) : Prop := gI x (60 + 5 * g) 0 = nI P.length ∧ gI m 7 g = nI P.length ∧ P.length ≤ 10 ∧ clen P ≤ 100 ∧ nOK x m g 0 0 P
def lett (k : Nat) : Nat := [100, 101, 101, 112, 99, 114, 101, 97, 107, 104, 117, 115, 104].getD k 0
def fI : Nat → Nat
  | 0 => 50
  | 1 => 51
  | 2 => 52
  | 3 => 53
  | 4 => 54
  | 5 => 48
  | 30 => 55
  | 41 => 56
  | 45 => 57
  | _ => 49
def aI : Nat → Nat
  | 1 => 25
  | 16 => 30
  | 24 => 33
  | 21 => 31
  | 22 => 32
  | _ => 34
def fC (k : Nat) : Nat := k
def HS (x m : gMem) (h : Nat) (f : Nat → Nat) : Prop := gI x h 1 = gI m 0 (f 3) ∧ gI x h 2 = gI m 0 (f 4) ∧ gI x h 3 = gI m 0 (f 0) ∧ gI x h 4 = gI m 0 (f 1) ∧ gI x h 5 = gI m 0 (f 2) ∧ gI x h 6 = gI m 0 (f 5) ∧ gI x h 8 = gI m 0 (f 30) ∧ gI x h 12 = gI m 0 (f 41) ∧ gI x h 14 = gI m 0 (f 45)
def HA (x m : gMem) (h : Nat) (a : Nat → Nat) : Prop := (∀ k, k < 12 → gI x (h + 1) k = gI m (a 1) k) ∧ (∀ k, k < 12 → gI x (h + 2) k = gI m (a 16) k) ∧ (∀ k, k < 6 → gI x (h + 3) k = gI m (a 21) k) ∧ (∀ k, k < 6 → gI x (h + 4) k = gI m (a 22) k) ∧ (∀ k, k < 6 → gI x (h + 5) k = gI m (a 23) k) ∧ ∀ k, k < 12 → gI x (h + 6) k = gI m (a 24) k
def HR (m : gMem) (f a : Nat → Nat) : Prop := rg (gI m 0 (f 0)) 4 ∧ rg (gI m 0 (f 1)) 9992 ∧ rg (gI m 0 (f 2)) 2 ∧ rg (gI m 0 (f 3)) 4095 ∧ rg (gI m 0 (f 4)) 11 ∧ rg (gI m 0 (f 5)) 1 ∧ rg (gI m 0 (f 30)) 12 ∧ rg (gI m 0 (f 41)) 6 ∧ rg (gI m 0 (f 45)) 12 ∧ (∀ k, k < 12 → rg (gI m (a 1) k) 9) ∧ (∀ k, k < 12 → gI m (a 16) k = -2 ∨ rg (gI m (a 16) k) 11) ∧ (∀ k, k < 6 → rg (gI m (a 21) k) 11) ∧ (∀ k, k < 6 → rg (gI m (a 22) k) 30) ∧ (∀ k, k < 6 → rg (gI m (a 23) k) 1) ∧ ∀ k, k < 12 → rg (gI m (a 24) k) 999
def HO (x m : gMem) (h : Nat) (f a : Nat → Nat) : Prop := HS x m h f ∧ HA x m h a ∧ HR m f a
def WK (L : List Nat) (W : Nat → Nat) (x m : gMem) (n : Nat) : Prop := (∀ i, i < n → wok L (W i) ∧ gR x 1 i = some (W i) ∧ gI x (W i) 0 = nI i ∧ gI m 2 i = nI (wkd (W i)) ∧ gI x (W i) 1 = gI m 3 i ∧ rg (gI m 3 i) 9 ∧ gI x (W i) 2 = gI m 4 i ∧ rg (gI m 4 i) 11 ∧ ∀ j, j < 4 → rg (gI m 5 (4 * i + j)) 9 ∧ (wkd (W i) = 6 → gI x (W i + 2) j = gI m 5 (4 * i + j))) ∧ ∀ i j, i < n → j < n → W i = W j → i = j
def WI (W : Nat → Nat) (x m : gMem) (n : Nat) : Prop := ∀ i, i < n → gI m 26 i = nI (wkd (W i)) ∧ gI x (W i) 1 = gI m 27 i ∧ gI x (W i) 3 = gI m 28 i ∧ rg (gI m 27 i) 9 ∧ rg (gI m 28 i) 11 ∧ ∀ j, j < 4 → rg (gI m 29 (4 * i + j)) 9 ∧ (wkd (W i) = 6 → gI x (W i + 3) j = gI m 29 (4 * i + j))
def AC (L : List Nat) (x m : gMem) : Prop := (gR x 0 8 = none ∧ gI m 0 68 = nI 0) ∨ ∃ w n, gR x 0 8 = some w ∧ wok L w ∧ gI x w 5 = nI n ∧ gI m 0 68 = nI n ∧ n ≤ 100 ∧ ∀ k, k < 20 → k < n → gI x (w + 1) k = gI m 35 k
def TP (x m : gMem) : Prop := ∀ t, t < 6 → gR x 5 t = some (50 + t) ∧ gI x 3 t = gI m 36 t ∧ gI x 4 t = gI m 37 t ∧ ((gI m 36 t = -1 ∧ gI m 37 t = nI 0) ∨ ∃ s n, s ≤ 4 ∧ n ≤ 60 ∧ gI m 36 t = nI s ∧ gI m 37 t = nI n ∧ ∀ j, j < n → gJ x (50 + t) j = gJ m 38 (60 * t + j))
def NT (x m : gMem) (N : Nat → List cls) : Prop := gI x 0 5 = gI m 0 11 ∧ (∀ g, g < 6 → gR x 2 g = some (60 + 5 * g)) ∧ ∃ n, n ≤ 6 ∧ gI m 0 11 = nI n ∧ ∀ g, g < n → ntOK x m g (N g)
def CU (x m : gMem) (c h : Nat) : Prop := (gI m 0 c = -1 ∧ gR x h 15 = none) ∨ ∃ g n, g < n ∧ n ≤ 6 ∧ gI m 0 11 = nI n ∧ gI m 0 c = nI g ∧ gR x h 15 = some (60 + 5 * g)
def TXT (x m : gMem) : Prop := rg (gI m 0 13) 100 ∧ gI x 30 1 = gI m 0 13 ∧ (∀ k, k < 100 → gI x 31 k = gI m 6 k ∧ rg (gI m 6 k) 127) ∧ ∀ k, k < 13 → gI m 14 k = nI (lett k)
def MI (x m : gMem) : Prop := gI m 0 29 = nI 0 ∧ rg (gI m 0 47) 1 ∧ gI x 0 2 = gI m 0 47
def IM (W : Nat → Nat) (x m : gMem) : Prop := gI m 0 47 = nI 1 → ∃ ni n, gI m 0 50 = nI ni ∧ gI m 0 0 = nI n ∧ ni ≤ n ∧ n ≤ 4 ∧ HO x m 20 fI aI ∧ WI W x m ni ∧ CU x m 49 20
def WN (L : List Nat) (W : Nat → Nat) (x m : gMem) : Prop := ∃ n, n ≤ 4 ∧ gI m 0 0 = nI n ∧ WK L W x m n
def Rel (L : List Nat) (W : Nat → Nat) (N : Nat → List cls) (x m : gMem) : Prop := HO x m 10 fC fC ∧ WN L W x m ∧ AC L x m ∧ TP x m ∧ NT x m N ∧ CU x m 12 10 ∧ TXT x m ∧ MI x m ∧ IM W x m
section FR
variable {L : List Nat} {W : Nat → Nat} {N : Nat → List cls} {x m x' m' : gMem}
theorem HO.fr (h : HO x m 10 fC fC) (hx : ∀ o k, (o = 10 ∧ k ≠ 15) ∨ (11 ≤ o ∧ o ≤ 16) → gI x' o k = gI x o k) (hm : ∀ o k, (o = 0 ∧ (k ≤ 5 ∨ k = 30 ∨ k = 41 ∨ k = 45)) ∨ o = 1 ∨ o = 16 ∨ (21 ≤ o ∧ o ≤ 24) → gI m' o k = gI m o k) : HO x' m' 10 fC fC := by
  unfold HO HS HA HR fC at *
  simp (disch := omega) only [hx, hm]
  exact h
theorem HO.fi (h : HO x m 20 fI aI) (hx : ∀ o k, (o = 20 ∧ k ≠ 15) ∨ (21 ≤ o ∧ o ≤ 26) → gI x' o k = gI x o k) (hm : ∀ o k, (o = 0 ∧ 48 ≤ k ∧ k ≤ 57) ∨ (25 ≤ o ∧ o ≤ 34) → gI m' o k = gI m o k) : HO x' m' 20 fI aI := by
  unfold HO HS HA HR at *
  simp only [fI, aI] at *
  simp (disch := omega) only [hx, hm]
  exact h
theorem WK.fr {n : Nat} (h : WK L W x m n) (hx : ∀ o k, 128 ≤ o → (o % 4 = 0 ∧ k ≤ 2 ∨ o % 4 = 2) → gI x' o k = gI x o k) (hr : ∀ k, gR x' 1 k = gR x 1 k) (hm : ∀ o k, 2 ≤ o → o ≤ 5 → gI m' o k = gI m o k) : WK L W x' m' n := by
  refine ⟨fun i hi => ?_, h.2⟩
  obtain ⟨h1, h2, h3, h4, h5, h6, h7, h8, h9⟩ := h.1 i hi
  have hw := h1.1
  have hw4 := h1.2.1
  simp (disch := omega) only [hx, hm, hr]
  exact ⟨h1, h2, h3, h4, h5, h6, h7, h8, h9⟩
theorem WN.fr (h : WN L W x m) (hx : ∀ o k, 128 ≤ o → (o % 4 = 0 ∧ k ≤ 2 ∨ o % 4 = 2) → gI x' o k = gI x o k) (hr : ∀ k, gR x' 1 k = gR x 1 k) (hm : ∀ o k, (2 ≤ o ∧ o ≤ 5) ∨ (o = 0 ∧ k = 0) → gI m' o k = gI m o k) : WN L W x' m' := by
  obtain ⟨n, h1, h2, h3⟩ := h
  exact ⟨n, h1, by rw [hm _ _ (by omega)]; exact h2, h3.fr hx hr (fun o k a b => hm o k (Or.inl ⟨a, b⟩))⟩
theorem WI.fr {n : Nat} (hw : ∀ i, i < n → 128 ≤ W i ∧ W i % 4 = 0) (h : WI W x m n) (hx : ∀ o k, 128 ≤ o → (o % 4 = 0 → k = 1 ∨ k = 3) → (o % 4 = 0 ∨ o % 4 = 3) → gI x' o k = gI x o k) (hm : ∀ o k, 26 ≤ o → o ≤ 29 → gI m' o k = gI m o k) : WI W x' m' n := by
  intro i hi
  have h0 := (hw i hi).1
  have h4 := (hw i hi).2
  have h1 := h i hi
  simp (disch := omega) only [hx, hm]
  exact h1
theorem AC.fr (h : AC L x m) (hx : ∀ o k, 128 ≤ o → (o % 4 = 0 ∧ k = 5 ∨ o % 4 = 1) → gI x' o k = gI x o k) (hr : gR x' 0 8 = gR x 0 8) (hm : ∀ o k, (o = 0 ∧ k = 68) ∨ o = 35 → gI m' o k = gI m o k) : AC L x' m' := by
  rcases h with h | ⟨w, n, h1, h2, h3, h4, h5, h6⟩
  · left
    simp (disch := omega) only [hr, hm]
    exact h
  · right
    have h0 := h2.1
    have h00 := h2.2.1
    refine ⟨w, n, ?_⟩
    simp (disch := omega) only [hr, hm, hx]
    exact ⟨h1, h2, h3, h4, h5, h6⟩
theorem TP.fr (h : TP x m) (hx : ∀ o k, o = 3 ∨ o = 4 → gI x' o k = gI x o k) (hr : ∀ k, gR x' 5 k = gR x 5 k) (hj : ∀ o k, 50 ≤ o → o ≤ 55 → gJ x' o k = gJ x o k) (hm : ∀ o k, o = 36 ∨ o = 37 → gI m' o k = gI m o k) (hmj : ∀ k, gJ m' 38 k = gJ m 38 k) : TP x' m' := by
  intro t ht
  have h1 := h t ht
  simp (disch := omega) only [hr, hm, hx, hj, hmj]
  exact h1
theorem nOK.fr {g : Nat} (hg : g < 6) (hx : ∀ o k, 61 ≤ o → o ≤ 89 → o ≠ 65 + 5 * g → gI x' o k = gI x o k) (hm : ∀ o k, 8 ≤ o → o ≤ 12 → gI m' o k = gI m o k) : ∀ (P : List cls) (i st : Nat), nOK x m g i st P → nOK x' m' g i st P
  | [], _, _, _ => trivial
  | c :: r, i, st, h => by
    have h2 := nOK.fr hg hx hm r _ _ h.2
    have h1 := h.1
    simp only [nOK]
    simp (disch := omega) only [hx, hm]
    exact ⟨h1, h2⟩
theorem NT.fr (h : NT x m N) (hx : ∀ o k, (o = 0 ∧ k = 5) ∨ (60 ≤ o ∧ o ≤ 89) → gI x' o k = gI x o k) (hr : ∀ k, gR x' 2 k = gR x 2 k) (hm : ∀ o k, (o = 0 ∧ k = 11) ∨ (7 ≤ o ∧ o ≤ 12) → gI m' o k = gI m o k) : NT x' m' N := by
  obtain ⟨h1, h2, n, h3, h4, h5⟩ := h
  refine ⟨?_, ?_, n, h3, ?_, fun g hg => ?_⟩
  · simp (disch := omega) only [hx, hm]; exact h1
  · simp only [hr]; exact h2
  · simp (disch := omega) only [hm]; exact h4
  · obtain ⟨a, b, c, d, e⟩ := h5 g hg
    refine ⟨?_, ?_, c, d, nOK.fr (by omega) (fun o k p q _ => hx o k (by omega)) (fun o k p q => hm o k (by omega)) _ _ _ e⟩
    · simp (disch := omega) only [hx]; exact a
    · simp (disch := omega) only [hm]; exact b
theorem CU.fr {c h : Nat} (H : CU x m c h) (hr : gR x' h 15 = gR x h 15) (h1 : gI m' 0 11 = gI m 0 11) (h2 : gI m' 0 c = gI m 0 c) : CU x' m' c h := by
  unfold CU at *
  rw [hr, h1, h2]
  exact H
theorem TXT.fr (h : TXT x m) (hx : ∀ o k, (o = 30 ∧ k = 1) ∨ o = 31 → gI x' o k = gI x o k) (hm : ∀ o k, (o = 0 ∧ k = 13) ∨ o = 6 ∨ o = 14 → gI m' o k = gI m o k) : TXT x' m' := by
  unfold TXT at *
  simp (disch := omega) only [hx, hm]
  exact h
theorem MI.fr (h : MI x m) (hx : gI x' 0 2 = gI x 0 2) (h1 : gI m' 0 29 = gI m 0 29) (h2 : gI m' 0 47 = gI m 0 47) : MI x' m' := by
  unfold MI at *
  rw [hx, h1, h2]
  exact h
theorem WN.w (h : WN L W x m) {n : Nat} (e : gI m 0 0 = nI n) (hn : n ≤ 4) : WK L W x m n := by
  obtain ⟨k, h1, h2, h3⟩ := h
  rw [nI_inj (by omega) (by omega) (e.symm.trans h2)]
  exact h3
theorem IM.fr (hW : WN L W x m) (h : IM W x m) (hx : ∀ o k, (o = 20 ∧ k ≠ 15) ∨ (21 ≤ o ∧ o ≤ 26) ∨ (128 ≤ o ∧ (o % 4 = 0 ∧ (k = 1 ∨ k = 3) ∨ o % 4 = 3)) → gI x' o k = gI x o k) (hr : gR x' 20 15 = gR x 20 15) (hm : ∀ o k, (o = 0 ∧ (k = 0 ∨ k = 11 ∨ (47 ≤ k ∧ k ≤ 57))) ∨ (25 ≤ o ∧ o ≤ 34) → gI m' o k = gI m o k) : IM W x' m' := by
  intro h47
  rw [hm _ _ (by omega)] at h47
  obtain ⟨ni, n, h1, h2, h3, h33, h4, h5, h6⟩ := h h47
  have a3 := hW.w h2 h33
  refine ⟨ni, n, ?_, ?_, h3, h33, h4.fi (fun o k q => hx o k (by omega)) (fun o k q => hm o k (by omega)), ?_, h6.fr hr (hm _ _ (by omega)) (hm _ _ (by omega))⟩
  · rw [hm _ _ (by omega)]; exact h1
  · rw [hm _ _ (by omega)]; exact h2
  · exact WI.fr (fun i hi => ⟨(a3.1 i (by omega)).1.1, (a3.1 i (by omega)).1.2.1⟩) h5 (fun o k p q r => hx o k (by omega)) (fun o k p q => hm o k (by omega))
/-- asking keeps all -/
theorem Rel.fr (h : Rel L W N x m) (hx : agX x x') (hm : agM m m') : Rel L W N x' m' := by
  obtain ⟨hO, hW, hA, hT, hN, hC, hX, hM, hI⟩ := h
  obtain ⟨x1, x2, x3⟩ := hx
  obtain ⟨m1, m2, m3⟩ := hm
  refine ⟨hO.fr (fun o k q => x1 o k (by omega)) (fun o k q => m1 o k (by omega)), hW.fr (fun o k p q => x1 o k (by omega)) (fun k => x3 _ _) (fun o k q => m1 o k (by omega)), hA.fr (fun o k p q => x1 o k (by omega)) (x3 _ _) (fun o k q => m1 o k (by omega)), hT.fr (fun o k q => x1 o k (by omega)) (fun k => x3 _ _) (fun o k p q => x2 o k (by omega)) (fun o k q => m1 o k (by omega)) (fun k => m2 _ _ (by omega)), hN.fr (fun o k q => x1 o k (by omega)) (fun k => x3 _ _) (fun o k q => m1 o k (by omega)), hC.fr (x3 _ _) (m1 _ _ (by omega)) (m1 _ _ (by omega)), hX.fr (fun o k q => x1 o k (by omega)) (fun o k q => m1 o k (by omega)), hM.fr (x1 _ _ (by omega)) (m1 _ _ (by omega)) (m1 _ _ (by omega)), hI.fr hW (fun o k q => x1 o k (by omega)) (x3 _ _) (fun o k q => m1 o k (by omega))⟩
end FR
