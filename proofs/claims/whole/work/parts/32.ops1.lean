/-! the calls that tell and ask single cells -/
def Op {α : Type} (L : List Nat) (W : Nat → Nat) (N : Nat → List cls) (fx fm : Option (α × gMem)) : Prop := ∃ a x' m', fx = some (a, x') ∧ fm = some (a, m') ∧ Rel L W N x' m'
def Oq {α : Type} (fx fm : Option α) : Prop := ∃ a, fx = some a ∧ fm = some a
theorem nI_and (a b : Nat) : nI a &&& nI b = nI (a &&& b) := by
  apply Int32.toBitVec_inj.1
  show BitVec.ofNat 32 a &&& BitVec.ofNat 32 b = BitVec.ofNat 32 (a &&& b)
  apply BitVec.eq_of_getLsbD_eq
  intro i hi
  simp [hi]
theorem nI_or (a b : Nat) : nI a ||| nI b = nI (a ||| b) := by
  apply Int32.toBitVec_inj.1
  show BitVec.ofNat 32 a ||| BitVec.ofNat 32 b = BitVec.ofNat 32 (a ||| b)
  apply BitVec.eq_of_getLsbD_eq
  intro i hi
  simp [hi]
theorem lt12 {P : Nat → Prop} {b : Nat} (hb : b < 12) (h0 : P 0) (h1 : P 1) (h2 : P 2) (h3 : P 3) (h4 : P 4) (h5 : P 5) (h6 : P 6) (h7 : P 7) (h8 : P 8) (h9 : P 9) (h10 : P 10) (h11 : P 11) : P b := by
  rcases (show b = 0 ∨ b = 1 ∨ b = 2 ∨ b = 3 ∨ b = 4 ∨ b = 5 ∨ b = 6 ∨ b = 7 ∨ b = 8 ∨ b = 9 ∨ b = 10 ∨ b = 11 by omega) with rfl | rfl | rfl | rfl | rfl | rfl | rfl | rfl | rfl | rfl | rfl | rfl <;> assumption
theorem sh1 {b : Nat} (hb : b < 12) : (1 : Int32) <<< (nI b &&& 31) = nI (2 ^ b) := lt12 (P := fun b => (1 : Int32) <<< (nI b &&& 31) = nI (2 ^ b)) hb (by decide) (by decide) (by decide) (by decide) (by decide) (by decide) (by decide) (by decide) (by decide) (by decide) (by decide) (by decide)
theorem shx {b : Nat} (hb : b < 12) : nI (2 ^ b) ^^^ (-1 : Int32) = nI (2 ^ 32 - 1 - 2 ^ b) := lt12 (P := fun b => nI (2 ^ b) ^^^ (-1 : Int32) = nI (2 ^ 32 - 1 - 2 ^ b)) hb (by decide) (by decide) (by decide) (by decide) (by decide) (by decide) (by decide) (by decide) (by decide) (by decide) (by decide) (by decide)
/-- a bit of a number -/
def tyb (T b : Nat) : Nat := T / 2 ^ b % 2
theorem tyb_lt (T b : Nat) : tyb T b < 2 := Nat.mod_lt _ (by decide)
theorem shr {T b : Nat} (hT : T < 2 ^ 31) (hb : b < 12) : (nI T >>> (nI b &&& 31)) &&& (1 : Int32) = nI (tyb T b) := by
  rw [pk_shrN hT (nI b &&& 31) b (lt12 (P := fun b => ((nI b &&& 31).toBitVec.smod 32).toNat = b) hb (by decide) (by decide) (by decide) (by decide) (by decide) (by decide) (by decide) (by decide) (by decide) (by decide) (by decide) (by decide))]
  rw [pk_andN (Nat.lt_of_le_of_lt (Nat.div_le_self _ _) (by omega)) 1 (by decide)]
  rfl
theorem clrb {T b : Nat} (hb : b < 12) (hT : T ≤ 4095) : nI T &&& (((1 : Int32) <<< (nI b &&& 31)) ^^^ (-1 : Int32)) = nI (T &&& (2 ^ 32 - 1 - 2 ^ b)) ∧ T &&& (2 ^ 32 - 1 - 2 ^ b) ≤ 4095 := by
  rw [sh1 hb, shx hb, nI_and]
  exact ⟨rfl, Nat.le_trans Nat.and_le_left hT⟩
theorem setb {T b : Nat} (hb : b < 12) (hT : T ≤ 4095) : nI T ||| ((1 : Int32) <<< (nI b &&& 31)) = nI (T ||| 2 ^ b) ∧ T ||| 2 ^ b ≤ 4095 := by
  rw [sh1 hb, nI_or]
  refine ⟨rfl, ?_⟩
  have := Nat.or_lt_two_pow (x := T) (y := 2 ^ b) (n := 12) (by omega) (Nat.pow_lt_pow_right (by decide) hb)
  omega
theorem tyb_bit (T b : Nat) : tyb T b = if T.testBit b then 1 else 0 := by
  rw [tyb, Nat.testBit_eq_decide_div_mod_eq]
  have := Nat.mod_lt (T / 2 ^ b) (show 0 < 2 by decide)
  by_cases h : T / 2 ^ b % 2 = 1
  · simp [h]
  · simp [h]; omega
theorem tyb_clr {T b c : Nat} (hb : b < 12) (hc : c < 12) : tyb (T &&& (2 ^ 32 - 1 - 2 ^ b)) c = if c = b then 0 else tyb T c := by
  have e : (2 ^ 32 - 1 - 2 ^ b).testBit c = decide (c ≠ b) := by
    revert c
    refine lt12 (P := fun b => ∀ {c : Nat}, c < 12 → (2 ^ 32 - 1 - 2 ^ b).testBit c = decide (c ≠ b)) hb ?_ ?_ ?_ ?_ ?_ ?_ ?_ ?_ ?_ ?_ ?_ ?_ <;> intro c hc <;> (refine lt12 (P := fun c => Nat.testBit _ c = decide (c ≠ _)) hc ?_ ?_ ?_ ?_ ?_ ?_ ?_ ?_ ?_ ?_ ?_ ?_ <;> decide)
  rw [tyb_bit, tyb_bit, Nat.testBit_and, e]
  by_cases h : c = b <;> simp [h]
section O1
variable {L : List Nat} {W : Nat → Nat} {N : Nat → List cls} {x m x' m' : gMem}
theorem Rel.ho (H : Rel L W N x m) (h1 : HO x' m' 10 fC fC) (hx : ∀ o k, ¬ ((o = 10 ∧ k ≠ 3 ∧ k ≠ 15) ∨ (11 ≤ o ∧ o ≤ 16)) → gI x' o k = gI x o k) (hxJ : ∀ o k, gJ x' o k = gJ x o k) (hxR : ∀ o k, gR x' o k = gR x o k) (hm : ∀ o k, ¬ ((o = 0 ∧ ((1 ≤ k ∧ k ≤ 5) ∨ k = 30 ∨ k = 41 ∨ k = 45)) ∨ o = 1 ∨ o = 16 ∨ (21 ≤ o ∧ o ≤ 24)) → gI m' o k = gI m o k) (hmJ : ∀ o k, gJ m' o k = gJ m o k) : Rel L W N x' m' := by
  obtain ⟨hO, hW, hA, hT, hN, hC, hX, hM, hI⟩ := H
  refine ⟨h1, hW.fr (fun o k p q => hx o k (by omega)) (fun k => hxR _ _) (fun o k q => hm o k (by omega)), hA.fr (fun o k p q => hx o k (by omega)) (hxR _ _) (fun o k q => hm o k (by omega)), hT.fr (fun o k q => hx o k (by omega)) (fun k => hxR _ _) (fun o k p q => hxJ o k) (fun o k q => hm o k (by omega)) (fun k => hmJ _ _), hN.fr (fun o k q => hx o k (by omega)) (fun k => hxR _ _) (fun o k q => hm o k (by omega)), hC.fr (hxR _ _) (hm _ _ (by omega)) (hm _ _ (by omega)), hX.fr (fun o k q => hx o k (by omega)) (fun o k q => hm o k (by omega)), hM.fr (hx _ _ (by omega)) (hm _ _ (by omega)) (hm _ _ (by omega)), hI.fr hW (fun o k q => hx o k (by omega)) (hxR _ _) (fun o k q => hm o k (by omega))⟩
theorem hou_creak (h : HO x m 10 fC fC) {b v : Nat} (hr : rg (nI v) 9) : HO (gsI x 11 b (nI v)) (gsI m 1 b (nI v)) 10 fC fC := by
  unfold HO HS HA HR fC at *
  obtain ⟨⟨s1, s2, s3, s4, s5, s6, s7, s8, s9⟩, ⟨a1, a2, a3, a4, a5, a6⟩, r1, r2, r3, r4, r5, r6, r7, r8, r9, r10, r11, r12, r13, r14, r15⟩ := h
  refine ⟨⟨?_, ?_, ?_, ?_, ?_, ?_, ?_, ?_, ?_⟩, ⟨?_, ?_, ?_, ?_, ?_, ?_⟩, ?_, ?_, ?_, ?_, ?_, ?_, ?_, ?_, ?_, ?_, ?_, ?_, ?_, ?_, ?_⟩ <;> (try simp (disch := omega) only [gI_sI, true_and, if_pos, if_neg]) <;> first | assumption | rfl | exact hr | exact hr2 | (intro k hk; by_cases hkb : k = b <;> (try simp (disch := omega) only [true_and, if_pos, if_neg]) <;> first | rfl | exact hr | exact hr2 | exact hr3 | exact hr4 | exact Or.inr hr | exact a1 k hk | exact a2 k hk | exact a3 k hk | exact a4 k hk | exact a5 k hk | exact a6 k hk | exact r10 k hk | exact r11 k hk | exact r12 k hk | exact r13 k hk | exact r14 k hk | exact r15 k hk)
theorem hou_toys (h : HO x m 10 fC fC) {v : Int32} (hr : rg v 4095) : HO (gsI x 10 1 v) (gsI m 0 3 v) 10 fC fC := by
  have b : Nat := 0
  unfold HO HS HA HR fC at *
  obtain ⟨⟨s1, s2, s3, s4, s5, s6, s7, s8, s9⟩, ⟨a1, a2, a3, a4, a5, a6⟩, r1, r2, r3, r4, r5, r6, r7, r8, r9, r10, r11, r12, r13, r14, r15⟩ := h
  refine ⟨⟨?_, ?_, ?_, ?_, ?_, ?_, ?_, ?_, ?_⟩, ⟨?_, ?_, ?_, ?_, ?_, ?_⟩, ?_, ?_, ?_, ?_, ?_, ?_, ?_, ?_, ?_, ?_, ?_, ?_, ?_, ?_, ?_⟩ <;> (try simp (disch := omega) only [gI_sI, true_and, if_pos, if_neg]) <;> first | assumption | rfl | exact hr | exact hr2 | (intro k hk; by_cases hkb : k = b <;> (try simp (disch := omega) only [true_and, if_pos, if_neg]) <;> first | rfl | exact hr | exact hr2 | exact hr3 | exact hr4 | exact Or.inr hr | exact a1 k hk | exact a2 k hk | exact a3 k hk | exact a4 k hk | exact a5 k hk | exact a6 k hk | exact r10 k hk | exact r11 k hk | exact r12 k hk | exact r13 k hk | exact r14 k hk | exact r15 k hk)
theorem hou_door (h : HO x m 10 fC fC) {v : Int32} (hr : rg v 11) : HO (gsI x 10 2 v) (gsI m 0 4 v) 10 fC fC := by
  have b : Nat := 0
  unfold HO HS HA HR fC at *
  obtain ⟨⟨s1, s2, s3, s4, s5, s6, s7, s8, s9⟩, ⟨a1, a2, a3, a4, a5, a6⟩, r1, r2, r3, r4, r5, r6, r7, r8, r9, r10, r11, r12, r13, r14, r15⟩ := h
  refine ⟨⟨?_, ?_, ?_, ?_, ?_, ?_, ?_, ?_, ?_⟩, ⟨?_, ?_, ?_, ?_, ?_, ?_⟩, ?_, ?_, ?_, ?_, ?_, ?_, ?_, ?_, ?_, ?_, ?_, ?_, ?_, ?_, ?_⟩ <;> (try simp (disch := omega) only [gI_sI, true_and, if_pos, if_neg]) <;> first | assumption | rfl | exact hr | exact hr2 | (intro k hk; by_cases hkb : k = b <;> (try simp (disch := omega) only [true_and, if_pos, if_neg]) <;> first | rfl | exact hr | exact hr2 | exact hr3 | exact hr4 | exact Or.inr hr | exact a1 k hk | exact a2 k hk | exact a3 k hk | exact a4 k hk | exact a5 k hk | exact a6 k hk | exact r10 k hk | exact r11 k hk | exact r12 k hk | exact r13 k hk | exact r14 k hk | exact r15 k hk)
theorem hou_min (h : HO x m 10 fC fC) {v : Int32} (hr : rg v 9992) : HO (gsI x 10 4 v) (gsI m 0 1 v) 10 fC fC := by
  have b : Nat := 0
  unfold HO HS HA HR fC at *
  obtain ⟨⟨s1, s2, s3, s4, s5, s6, s7, s8, s9⟩, ⟨a1, a2, a3, a4, a5, a6⟩, r1, r2, r3, r4, r5, r6, r7, r8, r9, r10, r11, r12, r13, r14, r15⟩ := h
  refine ⟨⟨?_, ?_, ?_, ?_, ?_, ?_, ?_, ?_, ?_⟩, ⟨?_, ?_, ?_, ?_, ?_, ?_⟩, ?_, ?_, ?_, ?_, ?_, ?_, ?_, ?_, ?_, ?_, ?_, ?_, ?_, ?_, ?_⟩ <;> (try simp (disch := omega) only [gI_sI, true_and, if_pos, if_neg]) <;> first | assumption | rfl | exact hr | exact hr2 | (intro k hk; by_cases hkb : k = b <;> (try simp (disch := omega) only [true_and, if_pos, if_neg]) <;> first | rfl | exact hr | exact hr2 | exact hr3 | exact hr4 | exact Or.inr hr | exact a1 k hk | exact a2 k hk | exact a3 k hk | exact a4 k hk | exact a5 k hk | exact a6 k hk | exact r10 k hk | exact r11 k hk | exact r12 k hk | exact r13 k hk | exact r14 k hk | exact r15 k hk)
theorem hou_stirs (h : HO x m 10 fC fC) {v : Int32} (hr : rg v 2) : HO (gsI x 10 5 v) (gsI m 0 2 v) 10 fC fC := by
  have b : Nat := 0
  unfold HO HS HA HR fC at *
  obtain ⟨⟨s1, s2, s3, s4, s5, s6, s7, s8, s9⟩, ⟨a1, a2, a3, a4, a5, a6⟩, r1, r2, r3, r4, r5, r6, r7, r8, r9, r10, r11, r12, r13, r14, r15⟩ := h
  refine ⟨⟨?_, ?_, ?_, ?_, ?_, ?_, ?_, ?_, ?_⟩, ⟨?_, ?_, ?_, ?_, ?_, ?_⟩, ?_, ?_, ?_, ?_, ?_, ?_, ?_, ?_, ?_, ?_, ?_, ?_, ?_, ?_, ?_⟩ <;> (try simp (disch := omega) only [gI_sI, true_and, if_pos, if_neg]) <;> first | assumption | rfl | exact hr | exact hr2 | (intro k hk; by_cases hkb : k = b <;> (try simp (disch := omega) only [true_and, if_pos, if_neg]) <;> first | rfl | exact hr | exact hr2 | exact hr3 | exact hr4 | exact Or.inr hr | exact a1 k hk | exact a2 k hk | exact a3 k hk | exact a4 k hk | exact a5 k hk | exact a6 k hk | exact r10 k hk | exact r11 k hk | exact r12 k hk | exact r13 k hk | exact r14 k hk | exact r15 k hk)
theorem hou_awake (h : HO x m 10 fC fC) {v : Int32} (hr : rg v 1) : HO (gsI x 10 6 v) (gsI m 0 5 v) 10 fC fC := by
  have b : Nat := 0
  unfold HO HS HA HR fC at *
  obtain ⟨⟨s1, s2, s3, s4, s5, s6, s7, s8, s9⟩, ⟨a1, a2, a3, a4, a5, a6⟩, r1, r2, r3, r4, r5, r6, r7, r8, r9, r10, r11, r12, r13, r14, r15⟩ := h
  refine ⟨⟨?_, ?_, ?_, ?_, ?_, ?_, ?_, ?_, ?_⟩, ⟨?_, ?_, ?_, ?_, ?_, ?_⟩, ?_, ?_, ?_, ?_, ?_, ?_, ?_, ?_, ?_, ?_, ?_, ?_, ?_, ?_, ?_⟩ <;> (try simp (disch := omega) only [gI_sI, true_and, if_pos, if_neg]) <;> first | assumption | rfl | exact hr | exact hr2 | (intro k hk; by_cases hkb : k = b <;> (try simp (disch := omega) only [true_and, if_pos, if_neg]) <;> first | rfl | exact hr | exact hr2 | exact hr3 | exact hr4 | exact Or.inr hr | exact a1 k hk | exact a2 k hk | exact a3 k hk | exact a4 k hk | exact a5 k hk | exact a6 k hk | exact r10 k hk | exact r11 k hk | exact r12 k hk | exact r13 k hk | exact r14 k hk | exact r15 k hk)
theorem hou_ways (h : HO x m 10 fC fC) {v : Int32} (hr : rg v 12) : HO (gsI x 10 8 v) (gsI m 0 30 v) 10 fC fC := by
  have b : Nat := 0
  unfold HO HS HA HR fC at *
  obtain ⟨⟨s1, s2, s3, s4, s5, s6, s7, s8, s9⟩, ⟨a1, a2, a3, a4, a5, a6⟩, r1, r2, r3, r4, r5, r6, r7, r8, r9, r10, r11, r12, r13, r14, r15⟩ := h
  refine ⟨⟨?_, ?_, ?_, ?_, ?_, ?_, ?_, ?_, ?_⟩, ⟨?_, ?_, ?_, ?_, ?_, ?_⟩, ?_, ?_, ?_, ?_, ?_, ?_, ?_, ?_, ?_, ?_, ?_, ?_, ?_, ?_, ?_⟩ <;> (try simp (disch := omega) only [gI_sI, true_and, if_pos, if_neg]) <;> first | assumption | rfl | exact hr | exact hr2 | (intro k hk; by_cases hkb : k = b <;> (try simp (disch := omega) only [true_and, if_pos, if_neg]) <;> first | rfl | exact hr | exact hr2 | exact hr3 | exact hr4 | exact Or.inr hr | exact a1 k hk | exact a2 k hk | exact a3 k hk | exact a4 k hk | exact a5 k hk | exact a6 k hk | exact r10 k hk | exact r11 k hk | exact r12 k hk | exact r13 k hk | exact r14 k hk | exact r15 k hk)
theorem hou_seen (h : HO x m 10 fC fC) {v : Int32} (hr : rg v 6) : HO (gsI x 10 12 v) (gsI m 0 41 v) 10 fC fC := by
  have b : Nat := 0
  unfold HO HS HA HR fC at *
  obtain ⟨⟨s1, s2, s3, s4, s5, s6, s7, s8, s9⟩, ⟨a1, a2, a3, a4, a5, a6⟩, r1, r2, r3, r4, r5, r6, r7, r8, r9, r10, r11, r12, r13, r14, r15⟩ := h
  refine ⟨⟨?_, ?_, ?_, ?_, ?_, ?_, ?_, ?_, ?_⟩, ⟨?_, ?_, ?_, ?_, ?_, ?_⟩, ?_, ?_, ?_, ?_, ?_, ?_, ?_, ?_, ?_, ?_, ?_, ?_, ?_, ?_, ?_⟩ <;> (try simp (disch := omega) only [gI_sI, true_and, if_pos, if_neg]) <;> first | assumption | rfl | exact hr | exact hr2 | (intro k hk; by_cases hkb : k = b <;> (try simp (disch := omega) only [true_and, if_pos, if_neg]) <;> first | rfl | exact hr | exact hr2 | exact hr3 | exact hr4 | exact Or.inr hr | exact a1 k hk | exact a2 k hk | exact a3 k hk | exact a4 k hk | exact a5 k hk | exact a6 k hk | exact r10 k hk | exact r11 k hk | exact r12 k hk | exact r13 k hk | exact r14 k hk | exact r15 k hk)
theorem hou_books (h : HO x m 10 fC fC) {v : Int32} (hr : rg v 12) : HO (gsI x 10 14 v) (gsI m 0 45 v) 10 fC fC := by
  have b : Nat := 0
  unfold HO HS HA HR fC at *
  obtain ⟨⟨s1, s2, s3, s4, s5, s6, s7, s8, s9⟩, ⟨a1, a2, a3, a4, a5, a6⟩, r1, r2, r3, r4, r5, r6, r7, r8, r9, r10, r11, r12, r13, r14, r15⟩ := h
  refine ⟨⟨?_, ?_, ?_, ?_, ?_, ?_, ?_, ?_, ?_⟩, ⟨?_, ?_, ?_, ?_, ?_, ?_⟩, ?_, ?_, ?_, ?_, ?_, ?_, ?_, ?_, ?_, ?_, ?_, ?_, ?_, ?_, ?_⟩ <;> (try simp (disch := omega) only [gI_sI, true_and, if_pos, if_neg]) <;> first | assumption | rfl | exact hr | exact hr2 | (intro k hk; by_cases hkb : k = b <;> (try simp (disch := omega) only [true_and, if_pos, if_neg]) <;> first | rfl | exact hr | exact hr2 | exact hr3 | exact hr4 | exact Or.inr hr | exact a1 k hk | exact a2 k hk | exact a3 k hk | exact a4 k hk | exact a5 k hk | exact a6 k hk | exact r10 k hk | exact r11 k hk | exact r12 k hk | exact r13 k hk | exact r14 k hk | exact r15 k hk)
theorem hou_way (h : HO x m 10 fC fC) {b : Nat} {v : Int32} (hr : v = -2 ∨ rg v 11) : HO (gsI x 12 b v) (gsI m 16 b v) 10 fC fC := by
  unfold HO HS HA HR fC at *
  obtain ⟨⟨s1, s2, s3, s4, s5, s6, s7, s8, s9⟩, ⟨a1, a2, a3, a4, a5, a6⟩, r1, r2, r3, r4, r5, r6, r7, r8, r9, r10, r11, r12, r13, r14, r15⟩ := h
  refine ⟨⟨?_, ?_, ?_, ?_, ?_, ?_, ?_, ?_, ?_⟩, ⟨?_, ?_, ?_, ?_, ?_, ?_⟩, ?_, ?_, ?_, ?_, ?_, ?_, ?_, ?_, ?_, ?_, ?_, ?_, ?_, ?_, ?_⟩ <;> (try simp (disch := omega) only [gI_sI, true_and, if_pos, if_neg]) <;> first | assumption | rfl | exact hr | exact hr2 | (intro k hk; by_cases hkb : k = b <;> (try simp (disch := omega) only [true_and, if_pos, if_neg]) <;> first | rfl | exact hr | exact hr2 | exact hr3 | exact hr4 | exact Or.inr hr | exact a1 k hk | exact a2 k hk | exact a3 k hk | exact a4 k hk | exact a5 k hk | exact a6 k hk | exact r10 k hk | exact r11 k hk | exact r12 k hk | exact r13 k hk | exact r14 k hk | exact r15 k hk)
theorem hou_board (h : HO x m 10 fC fC) {b : Nat} {v : Int32} (hr : rg v 11) : HO (gsI x 13 b v) (gsI m 21 b v) 10 fC fC := by
  unfold HO HS HA HR fC at *
  obtain ⟨⟨s1, s2, s3, s4, s5, s6, s7, s8, s9⟩, ⟨a1, a2, a3, a4, a5, a6⟩, r1, r2, r3, r4, r5, r6, r7, r8, r9, r10, r11, r12, r13, r14, r15⟩ := h
  refine ⟨⟨?_, ?_, ?_, ?_, ?_, ?_, ?_, ?_, ?_⟩, ⟨?_, ?_, ?_, ?_, ?_, ?_⟩, ?_, ?_, ?_, ?_, ?_, ?_, ?_, ?_, ?_, ?_, ?_, ?_, ?_, ?_, ?_⟩ <;> (try simp (disch := omega) only [gI_sI, true_and, if_pos, if_neg]) <;> first | assumption | rfl | exact hr | exact hr2 | (intro k hk; by_cases hkb : k = b <;> (try simp (disch := omega) only [true_and, if_pos, if_neg]) <;> first | rfl | exact hr | exact hr2 | exact hr3 | exact hr4 | exact Or.inr hr | exact a1 k hk | exact a2 k hk | exact a3 k hk | exact a4 k hk | exact a5 k hk | exact a6 k hk | exact r10 k hk | exact r11 k hk | exact r12 k hk | exact r13 k hk | exact r14 k hk | exact r15 k hk)
theorem hou_when (h : HO x m 10 fC fC) {b : Nat} {v : Int32} (hr : rg v 30) : HO (gsI x 14 b v) (gsI m 22 b v) 10 fC fC := by
  unfold HO HS HA HR fC at *
  obtain ⟨⟨s1, s2, s3, s4, s5, s6, s7, s8, s9⟩, ⟨a1, a2, a3, a4, a5, a6⟩, r1, r2, r3, r4, r5, r6, r7, r8, r9, r10, r11, r12, r13, r14, r15⟩ := h
  refine ⟨⟨?_, ?_, ?_, ?_, ?_, ?_, ?_, ?_, ?_⟩, ⟨?_, ?_, ?_, ?_, ?_, ?_⟩, ?_, ?_, ?_, ?_, ?_, ?_, ?_, ?_, ?_, ?_, ?_, ?_, ?_, ?_, ?_⟩ <;> (try simp (disch := omega) only [gI_sI, true_and, if_pos, if_neg]) <;> first | assumption | rfl | exact hr | exact hr2 | (intro k hk; by_cases hkb : k = b <;> (try simp (disch := omega) only [true_and, if_pos, if_neg]) <;> first | rfl | exact hr | exact hr2 | exact hr3 | exact hr4 | exact Or.inr hr | exact a1 k hk | exact a2 k hk | exact a3 k hk | exact a4 k hk | exact a5 k hk | exact a6 k hk | exact r10 k hk | exact r11 k hk | exact r12 k hk | exact r13 k hk | exact r14 k hk | exact r15 k hk)
theorem hou_woke (h : HO x m 10 fC fC) {b : Nat} {v : Int32} (hr : rg v 1) : HO (gsI x 15 b v) (gsI m 23 b v) 10 fC fC := by
  unfold HO HS HA HR fC at *
  obtain ⟨⟨s1, s2, s3, s4, s5, s6, s7, s8, s9⟩, ⟨a1, a2, a3, a4, a5, a6⟩, r1, r2, r3, r4, r5, r6, r7, r8, r9, r10, r11, r12, r13, r14, r15⟩ := h
  refine ⟨⟨?_, ?_, ?_, ?_, ?_, ?_, ?_, ?_, ?_⟩, ⟨?_, ?_, ?_, ?_, ?_, ?_⟩, ?_, ?_, ?_, ?_, ?_, ?_, ?_, ?_, ?_, ?_, ?_, ?_, ?_, ?_, ?_⟩ <;> (try simp (disch := omega) only [gI_sI, true_and, if_pos, if_neg]) <;> first | assumption | rfl | exact hr | exact hr2 | (intro k hk; by_cases hkb : k = b <;> (try simp (disch := omega) only [true_and, if_pos, if_neg]) <;> first | rfl | exact hr | exact hr2 | exact hr3 | exact hr4 | exact Or.inr hr | exact a1 k hk | exact a2 k hk | exact a3 k hk | exact a4 k hk | exact a5 k hk | exact a6 k hk | exact r10 k hk | exact r11 k hk | exact r12 k hk | exact r13 k hk | exact r14 k hk | exact r15 k hk)
theorem hou_book (h : HO x m 10 fC fC) {b : Nat} {v : Int32} (hr : rg v 999) : HO (gsI x 16 b v) (gsI m 24 b v) 10 fC fC := by
  unfold HO HS HA HR fC at *
  obtain ⟨⟨s1, s2, s3, s4, s5, s6, s7, s8, s9⟩, ⟨a1, a2, a3, a4, a5, a6⟩, r1, r2, r3, r4, r5, r6, r7, r8, r9, r10, r11, r12, r13, r14, r15⟩ := h
  refine ⟨⟨?_, ?_, ?_, ?_, ?_, ?_, ?_, ?_, ?_⟩, ⟨?_, ?_, ?_, ?_, ?_, ?_⟩, ?_, ?_, ?_, ?_, ?_, ?_, ?_, ?_, ?_, ?_, ?_, ?_, ?_, ?_, ?_⟩ <;> (try simp (disch := omega) only [gI_sI, true_and, if_pos, if_neg]) <;> first | assumption | rfl | exact hr | exact hr2 | (intro k hk; by_cases hkb : k = b <;> (try simp (disch := omega) only [true_and, if_pos, if_neg]) <;> first | rfl | exact hr | exact hr2 | exact hr3 | exact hr4 | exact Or.inr hr | exact a1 k hk | exact a2 k hk | exact a3 k hk | exact a4 k hk | exact a5 k hk | exact a6 k hk | exact r10 k hk | exact r11 k hk | exact r12 k hk | exact r13 k hk | exact r14 k hk | exact r15 k hk)
theorem op_creak (H : Rel L W N x m) (p0 p1 : Int32) : Op L W N (f_X11_creak L x p0 p1) (f_X12_creak m p0 p1) := by
  unfold f_X11_creak f_X12_creak
  rw [x_isBoard, m_isBoard, m_in0 p1 9 10 rfl]
  rcases p_in p0 12 (by decide) with ⟨b, hb, rfl⟩ | h | h
  rotate_left
  · exact ⟨-1, x, m, by simp (disch := omega) only [lt1, jn, bd_s, bd2_s, oc_s, oc_n, li0, li1, li2, li3, li4, li5, li6, li7, li8, li9, li10, li11, li12, li13, li14, li16, li20, li21, li22, li24, li30, li31, li33, li38, li39, li40, li41, li45, li48, li50, li51, li57, li58, li59, li60, li61, li62, li64, li70, li71, li72, li99, li100, li101, li104, li107, li109, li116, li120, li121, li124, li127, li128, li144, li255, li300, li360, li372, li396, li600, li999, li1000, li9960, li9990, li1000000, nI_1, nI_add, pk_sub, pk_mul, pk_div, rem_nI, i_lt, i_le, i_eq, okI, ix, isB, nI_clamp, nI_toInt, tneg, gI_sI, gR_sI, gJ_sI, gI_sR, gR_sR, gJ_sR, gI_sJ, gR_sJ, gJ_sJ, true_and, and_true, false_and, and_false, if_true, if_false, if_pos, if_neg], by simp (disch := omega) only [lt1, jn, bd_s, bd2_s, oc_s, oc_n, li0, li1, li2, li3, li4, li5, li6, li7, li8, li9, li10, li11, li12, li13, li14, li16, li20, li21, li22, li24, li30, li31, li33, li38, li39, li40, li41, li45, li48, li50, li51, li57, li58, li59, li60, li61, li62, li64, li70, li71, li72, li99, li100, li101, li104, li107, li109, li116, li120, li121, li124, li127, li128, li144, li255, li300, li360, li372, li396, li600, li999, li1000, li9960, li9990, li1000000, nI_1, nI_add, pk_sub, pk_mul, pk_div, rem_nI, i_lt, i_le, i_eq, okI, ix, isB, nI_clamp, nI_toInt, tneg, gI_sI, gR_sI, gJ_sI, gI_sR, gR_sR, gJ_sR, gI_sJ, gR_sJ, gJ_sJ, true_and, and_true, false_and, and_false, if_true, if_false, if_pos, if_neg], H⟩
  · exact ⟨-1, x, m, by simp (disch := omega) only [lt1, jn, bd_s, bd2_s, oc_s, oc_n, li0, li1, li2, li3, li4, li5, li6, li7, li8, li9, li10, li11, li12, li13, li14, li16, li20, li21, li22, li24, li30, li31, li33, li38, li39, li40, li41, li45, li48, li50, li51, li57, li58, li59, li60, li61, li62, li64, li70, li71, li72, li99, li100, li101, li104, li107, li109, li116, li120, li121, li124, li127, li128, li144, li255, li300, li360, li372, li396, li600, li999, li1000, li9960, li9990, li1000000, nI_1, nI_add, pk_sub, pk_mul, pk_div, rem_nI, i_lt, i_le, i_eq, okI, ix, isB, nI_clamp, nI_toInt, tneg, gI_sI, gR_sI, gJ_sI, gI_sR, gR_sR, gJ_sR, gI_sJ, gR_sJ, gJ_sJ, true_and, and_true, false_and, and_false, if_true, if_false, if_pos, if_neg], by simp (disch := omega) only [lt1, jn, bd_s, bd2_s, oc_s, oc_n, li0, li1, li2, li3, li4, li5, li6, li7, li8, li9, li10, li11, li12, li13, li14, li16, li20, li21, li22, li24, li30, li31, li33, li38, li39, li40, li41, li45, li48, li50, li51, li57, li58, li59, li60, li61, li62, li64, li70, li71, li72, li99, li100, li101, li104, li107, li109, li116, li120, li121, li124, li127, li128, li144, li255, li300, li360, li372, li396, li600, li999, li1000, li9960, li9990, li1000000, nI_1, nI_add, pk_sub, pk_mul, pk_div, rem_nI, i_lt, i_le, i_eq, okI, ix, isB, nI_clamp, nI_toInt, tneg, gI_sI, gR_sI, gJ_sI, gI_sR, gR_sR, gJ_sR, gI_sJ, gR_sJ, gJ_sJ, true_and, and_true, false_and, and_false, if_true, if_false, if_pos, if_neg], H⟩
  rcases p_in p1 10 (by decide) with ⟨v, hv, rfl⟩ | h | h
  rotate_left
  · exact ⟨-2, x, m, by simp (disch := omega) only [lt1, jn, bd_s, bd2_s, oc_s, oc_n, li0, li1, li2, li3, li4, li5, li6, li7, li8, li9, li10, li11, li12, li13, li14, li16, li20, li21, li22, li24, li30, li31, li33, li38, li39, li40, li41, li45, li48, li50, li51, li57, li58, li59, li60, li61, li62, li64, li70, li71, li72, li99, li100, li101, li104, li107, li109, li116, li120, li121, li124, li127, li128, li144, li255, li300, li360, li372, li396, li600, li999, li1000, li9960, li9990, li1000000, nI_1, nI_add, pk_sub, pk_mul, pk_div, rem_nI, i_lt, i_le, i_eq, okI, ix, isB, nI_clamp, nI_toInt, tneg, gI_sI, gR_sI, gJ_sI, gI_sR, gR_sR, gJ_sR, gI_sJ, gR_sJ, gJ_sJ, true_and, and_true, false_and, and_false, if_true, if_false, if_pos, if_neg], by simp (disch := omega) only [lt1, jn, bd_s, bd2_s, oc_s, oc_n, li0, li1, li2, li3, li4, li5, li6, li7, li8, li9, li10, li11, li12, li13, li14, li16, li20, li21, li22, li24, li30, li31, li33, li38, li39, li40, li41, li45, li48, li50, li51, li57, li58, li59, li60, li61, li62, li64, li70, li71, li72, li99, li100, li101, li104, li107, li109, li116, li120, li121, li124, li127, li128, li144, li255, li300, li360, li372, li396, li600, li999, li1000, li9960, li9990, li1000000, nI_1, nI_add, pk_sub, pk_mul, pk_div, rem_nI, i_lt, i_le, i_eq, okI, ix, isB, nI_clamp, nI_toInt, tneg, gI_sI, gR_sI, gJ_sI, gI_sR, gR_sR, gJ_sR, gI_sJ, gR_sJ, gJ_sJ, true_and, and_true, false_and, and_false, if_true, if_false, if_pos, if_neg], H⟩
  · exact ⟨-2, x, m, by simp (disch := omega) only [lt1, jn, bd_s, bd2_s, oc_s, oc_n, li0, li1, li2, li3, li4, li5, li6, li7, li8, li9, li10, li11, li12, li13, li14, li16, li20, li21, li22, li24, li30, li31, li33, li38, li39, li40, li41, li45, li48, li50, li51, li57, li58, li59, li60, li61, li62, li64, li70, li71, li72, li99, li100, li101, li104, li107, li109, li116, li120, li121, li124, li127, li128, li144, li255, li300, li360, li372, li396, li600, li999, li1000, li9960, li9990, li1000000, nI_1, nI_add, pk_sub, pk_mul, pk_div, rem_nI, i_lt, i_le, i_eq, okI, ix, isB, nI_clamp, nI_toInt, tneg, gI_sI, gR_sI, gJ_sI, gI_sR, gR_sR, gJ_sR, gI_sJ, gR_sJ, gJ_sJ, true_and, and_true, false_and, and_false, if_true, if_false, if_pos, if_neg], by simp (disch := omega) only [lt1, jn, bd_s, bd2_s, oc_s, oc_n, li0, li1, li2, li3, li4, li5, li6, li7, li8, li9, li10, li11, li12, li13, li14, li16, li20, li21, li22, li24, li30, li31, li33, li38, li39, li40, li41, li45, li48, li50, li51, li57, li58, li59, li60, li61, li62, li64, li70, li71, li72, li99, li100, li101, li104, li107, li109, li116, li120, li121, li124, li127, li128, li144, li255, li300, li360, li372, li396, li600, li999, li1000, li9960, li9990, li1000000, nI_1, nI_add, pk_sub, pk_mul, pk_div, rem_nI, i_lt, i_le, i_eq, okI, ix, isB, nI_clamp, nI_toInt, tneg, gI_sI, gR_sI, gJ_sI, gI_sR, gR_sR, gJ_sR, gI_sJ, gR_sJ, gJ_sJ, true_and, and_true, false_and, and_false, if_true, if_false, if_pos, if_neg], H⟩
  have e := H.1.2.1.1 b hb
  simp only [fC] at e
  refine ⟨gI m 1 b, gsI x 11 b (nI v), gsI m 1 b (nI v), by simp (disch := omega) only [lt1, jn, bd_s, bd2_s, oc_s, oc_n, li0, li1, li2, li3, li4, li5, li6, li7, li8, li9, li10, li11, li12, li13, li14, li16, li20, li21, li22, li24, li30, li31, li33, li38, li39, li40, li41, li45, li48, li50, li51, li57, li58, li59, li60, li61, li62, li64, li70, li71, li72, li99, li100, li101, li104, li107, li109, li116, li120, li121, li124, li127, li128, li144, li255, li300, li360, li372, li396, li600, li999, li1000, li9960, li9990, li1000000, nI_1, nI_add, pk_sub, pk_mul, pk_div, rem_nI, i_lt, i_le, i_eq, okI, ix, isB, nI_clamp, nI_toInt, tneg, gI_sI, gR_sI, gJ_sI, gI_sR, gR_sR, gJ_sR, gI_sJ, gR_sJ, gJ_sJ, true_and, and_true, false_and, and_false, if_true, if_false, if_pos, if_neg, e], by simp (disch := omega) only [lt1, jn, bd_s, bd2_s, oc_s, oc_n, li0, li1, li2, li3, li4, li5, li6, li7, li8, li9, li10, li11, li12, li13, li14, li16, li20, li21, li22, li24, li30, li31, li33, li38, li39, li40, li41, li45, li48, li50, li51, li57, li58, li59, li60, li61, li62, li64, li70, li71, li72, li99, li100, li101, li104, li107, li109, li116, li120, li121, li124, li127, li128, li144, li255, li300, li360, li372, li396, li600, li999, li1000, li9960, li9990, li1000000, nI_1, nI_add, pk_sub, pk_mul, pk_div, rem_nI, i_lt, i_le, i_eq, okI, ix, isB, nI_clamp, nI_toInt, tneg, gI_sI, gR_sI, gJ_sI, gI_sR, gR_sR, gJ_sR, gI_sJ, gR_sJ, gJ_sJ, true_and, and_true, false_and, and_false, if_true, if_false, if_pos, if_neg], H.ho (hou_creak H.1 ⟨v, by omega, rfl⟩) ?_ (fun _ _ => rfl) (fun _ _ => rfl) ?_ (fun _ _ => rfl)⟩
  · intro o k q; rw [gI_sI, if_neg (by omega)]
  · intro o k q; rw [gI_sI, if_neg (by omega)]
end O1
