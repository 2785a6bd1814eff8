/-! acts -/
def AA (w : Nat) (x0 m0 x m : gMem) (c : Nat) : Prop := (∀ o k, ¬ ((o = w ∧ k = 5) ∨ o = w + 1) → gI x o k = gI x0 o k) ∧ (∀ o k, gJ x o k = gJ x0 o k) ∧ (∀ o k, gR x o k = gR x0 o k) ∧ (∀ o k, ¬ ((o = 0 ∧ k = 68) ∨ o = 35) → gI m o k = gI m0 o k) ∧ (∀ o k, gJ m o k = gJ m0 o k) ∧ (∀ o k, gR m o k = gR m0 o k) ∧ gI x w 5 = nI c ∧ gI m 0 68 = nI c ∧ ∀ k, k < 20 → k < c → gI x (w + 1) k = gI m 35 k
def AP (w : Nat) (x0 m0 : gMem) (B : Nat) (fx fm : Option (Int32 × gMem)) : Prop := ∃ a x' m' c', fx = some (a, x') ∧ fm = some (a, m') ∧ AA w x0 m0 x' m' c' ∧ c' ≤ B
section O10
variable {L : List Nat} {W : Nat → Nat} {N : Nat → List cls} {x m x' m' x0 m0 : gMem} {w i c : Nat}
theorem a_body (h : AA w x0 m0 x m c) (hw : 128 ≤ w) (hc : c ≤ 60) (b : Nat) : ∃ x' m', f_X9_begin L x w (nI b) = some x' ∧ f_X12_body m (nI b) = some m' ∧ AA w x0 m0 x' m' (c + 1) := by
  obtain ⟨h1, h2, h3, h4, h5, h6, h7, h8, h9⟩ := h
  by_cases h20 : c < 20
  · refine ⟨gsI (gsI x (w + 1) c (nI b)) w 5 (nI (c + 1)), gsI (gsI m 35 c (nI b)) 0 68 (nI (c + 1)), ?_, ?_, fun o k q => ?_, h2, h3, fun o k q => ?_, h5, h6, ?_, ?_, fun k p q => ?_⟩
    · unfold f_X9_begin; simp (disch := omega) only [lt1, jn, bd_s, bd2_s, oc_s, oc_n, li0, li1, li2, li3, li4, li5, li6, li7, li8, li9, li10, li11, li12, li13, li14, li16, li20, li21, li22, li24, li30, li31, li33, li38, li39, li40, li41, li45, li48, li50, li51, li57, li58, li59, li60, li61, li62, li64, li70, li71, li72, li99, li100, li101, li104, li107, li109, li116, li120, li121, li124, li127, li128, li144, li255, li300, li360, li372, li396, li600, li999, li1000, li9960, li9990, li1000000, nI_1, nI_add, pk_sub, pk_mul, pk_div, rem_nI, i_lt, i_le, i_eq, okI, ix, isB, nI_clamp, nI_toInt, tneg, gI_sI, gR_sI, gJ_sI, gI_sR, gR_sR, gJ_sR, gI_sJ, gR_sJ, gJ_sJ, true_and, and_true, false_and, and_false, if_true, if_false, if_pos, if_neg, h7]
    · unfold f_X12_body; simp (disch := omega) only [lt1, jn, bd_s, bd2_s, oc_s, oc_n, li0, li1, li2, li3, li4, li5, li6, li7, li8, li9, li10, li11, li12, li13, li14, li16, li20, li21, li22, li24, li30, li31, li33, li38, li39, li40, li41, li45, li48, li50, li51, li57, li58, li59, li60, li61, li62, li64, li70, li71, li72, li99, li100, li101, li104, li107, li109, li116, li120, li121, li124, li127, li128, li144, li255, li300, li360, li372, li396, li600, li999, li1000, li9960, li9990, li1000000, nI_1, nI_add, pk_sub, pk_mul, pk_div, rem_nI, i_lt, i_le, i_eq, okI, ix, isB, nI_clamp, nI_toInt, tneg, gI_sI, gR_sI, gJ_sI, gI_sR, gR_sR, gJ_sR, gI_sJ, gR_sJ, gJ_sJ, true_and, and_true, false_and, and_false, if_true, if_false, if_pos, if_neg, h8]
    · simp (disch := omega) only [gI_n, gI_y, gJ_n, gJ_y, gR_n, gR_y, gI_cn, gI_cy, gJ_sI, gR_sI, gI_sJ, gR_sJ, gI_sR, gJ_sR, gJ_cp, gR_cp, true_and, and_true, if_true, if_false, if_pos, if_neg]; exact h1 o k q
    · simp (disch := omega) only [gI_n, gI_y, gJ_n, gJ_y, gR_n, gR_y, gI_cn, gI_cy, gJ_sI, gR_sI, gI_sJ, gR_sJ, gI_sR, gJ_sR, gJ_cp, gR_cp, true_and, and_true, if_true, if_false, if_pos, if_neg]; exact h4 o k q
    · simp (disch := omega) only [gI_n, gI_y, gJ_n, gJ_y, gR_n, gR_y, gI_cn, gI_cy, gJ_sI, gR_sI, gI_sJ, gR_sJ, gI_sR, gJ_sR, gJ_cp, gR_cp, true_and, and_true, if_true, if_false, if_pos, if_neg]
    · simp (disch := omega) only [gI_n, gI_y, gJ_n, gJ_y, gR_n, gR_y, gI_cn, gI_cy, gJ_sI, gR_sI, gI_sJ, gR_sJ, gI_sR, gJ_sR, gJ_cp, gR_cp, true_and, and_true, if_true, if_false, if_pos, if_neg]
    · by_cases e : k = c
      · simp (disch := omega) only [gI_n, gI_y, gJ_n, gJ_y, gR_n, gR_y, gI_cn, gI_cy, gJ_sI, gR_sI, gI_sJ, gR_sJ, gI_sR, gJ_sR, gJ_cp, gR_cp, true_and, and_true, if_true, if_false, if_pos, if_neg]
      · simp (disch := omega) only [gI_n, gI_y, gJ_n, gJ_y, gR_n, gR_y, gI_cn, gI_cy, gJ_sI, gR_sI, gI_sJ, gR_sJ, gI_sR, gJ_sR, gJ_cp, gR_cp, true_and, and_true, if_true, if_false, if_pos, if_neg]; exact h9 k p (by omega)
  · refine ⟨gsI x w 5 (nI (c + 1)), gsI m 0 68 (nI (c + 1)), ?_, ?_, fun o k q => ?_, h2, h3, fun o k q => ?_, h5, h6, ?_, ?_, fun k p q => ?_⟩
    · unfold f_X9_begin; simp (disch := omega) only [lt1, jn, bd_s, bd2_s, oc_s, oc_n, li0, li1, li2, li3, li4, li5, li6, li7, li8, li9, li10, li11, li12, li13, li14, li16, li20, li21, li22, li24, li30, li31, li33, li38, li39, li40, li41, li45, li48, li50, li51, li57, li58, li59, li60, li61, li62, li64, li70, li71, li72, li99, li100, li101, li104, li107, li109, li116, li120, li121, li124, li127, li128, li144, li255, li300, li360, li372, li396, li600, li999, li1000, li9960, li9990, li1000000, nI_1, nI_add, pk_sub, pk_mul, pk_div, rem_nI, i_lt, i_le, i_eq, okI, ix, isB, nI_clamp, nI_toInt, tneg, gI_sI, gR_sI, gJ_sI, gI_sR, gR_sR, gJ_sR, gI_sJ, gR_sJ, gJ_sJ, true_and, and_true, false_and, and_false, if_true, if_false, if_pos, if_neg, h7]
    · unfold f_X12_body; simp (disch := omega) only [lt1, jn, bd_s, bd2_s, oc_s, oc_n, li0, li1, li2, li3, li4, li5, li6, li7, li8, li9, li10, li11, li12, li13, li14, li16, li20, li21, li22, li24, li30, li31, li33, li38, li39, li40, li41, li45, li48, li50, li51, li57, li58, li59, li60, li61, li62, li64, li70, li71, li72, li99, li100, li101, li104, li107, li109, li116, li120, li121, li124, li127, li128, li144, li255, li300, li360, li372, li396, li600, li999, li1000, li9960, li9990, li1000000, nI_1, nI_add, pk_sub, pk_mul, pk_div, rem_nI, i_lt, i_le, i_eq, okI, ix, isB, nI_clamp, nI_toInt, tneg, gI_sI, gR_sI, gJ_sI, gI_sR, gR_sR, gJ_sR, gI_sJ, gR_sJ, gJ_sJ, true_and, and_true, false_and, and_false, if_true, if_false, if_pos, if_neg, h8]
    · simp (disch := omega) only [gI_n, gI_y, gJ_n, gJ_y, gR_n, gR_y, gI_cn, gI_cy, gJ_sI, gR_sI, gI_sJ, gR_sJ, gI_sR, gJ_sR, gJ_cp, gR_cp, true_and, and_true, if_true, if_false, if_pos, if_neg]; exact h1 o k q
    · simp (disch := omega) only [gI_n, gI_y, gJ_n, gJ_y, gR_n, gR_y, gI_cn, gI_cy, gJ_sI, gR_sI, gI_sJ, gR_sJ, gI_sR, gJ_sR, gJ_cp, gR_cp, true_and, and_true, if_true, if_false, if_pos, if_neg]; exact h4 o k q
    · simp (disch := omega) only [gI_n, gI_y, gJ_n, gJ_y, gR_n, gR_y, gI_cn, gI_cy, gJ_sI, gR_sI, gI_sJ, gR_sJ, gI_sR, gJ_sR, gJ_cp, gR_cp, true_and, and_true, if_true, if_false, if_pos, if_neg]
    · simp (disch := omega) only [gI_n, gI_y, gJ_n, gJ_y, gR_n, gR_y, gI_cn, gI_cy, gJ_sI, gR_sI, gI_sJ, gR_sJ, gI_sR, gJ_sR, gJ_cp, gR_cp, true_and, and_true, if_true, if_false, if_pos, if_neg]
    · simp (disch := omega) only [gI_n, gI_y, gJ_n, gJ_y, gR_n, gR_y, gI_cn, gI_cy, gJ_sI, gR_sI, gI_sJ, gR_sJ, gI_sR, gJ_sR, gJ_cp, gR_cp, true_and, and_true, if_true, if_false, if_pos, if_neg]; exact h9 k p (by omega)
/-- what is known of the walker -/
def AK (w i : Nat) (x0 m0 : gMem) : Prop := 128 ≤ w ∧ i < 4 ∧ wkd w < 7 ∧ gI x0 w 0 = nI i ∧ gI m0 2 i = nI (wkd w) ∧ gI x0 w 1 = gI m0 3 i
theorem a_t9 (K : AK w i x0 m0) (h : AA w x0 m0 x m c) (hc : c ≤ 60) (p : Int32) : AP w x0 m0 (c + 1) (f_X9_actTreads L x w p) (f_X12_walkerTreads m (nI i) p) := by
  obtain ⟨x1, m1, b1, b2, A1⟩ := a_body (L := L) h K.1 hc 10
  refine ⟨p + nI i, x1, m1, c + 1, ?_, ?_, A1, Nat.le_refl _⟩
  · unfold f_X9_actTreads
    rw [li10, b1, bd_s, A1.1 _ _ (by omega), K.2.2.2.1]
  · unfold f_X12_walkerTreads
    rw [li10, b2, bd_s]
theorem a_t (K : AK w i x0 m0) (h : AA w x0 m0 x m c) (hc : c ≤ 50) (p : Int32) : AP w x0 m0 (c + 2) (d_actTreads L x w p) (f_X12_treadsAct m (nI i) p) := by
  have hi := K.2.1
  have hk7 := K.2.2.1
  have hk2 : gI m 2 i = nI (wkd w) := (h.2.2.2.1 _ _ (by omega)).trans K.2.2.2.2.1
  unfold d_actTreads f_X12_treadsAct
  rw [if_pos (okN hi (by decide)), ixN (by omega), hk2]
  simp only [lt1]
  have base := a_t9 (L := L) K h (by omega) p
  have base' : AP w x0 m0 (c + 2) (f_X9_actTreads L x w p) (bd2 (f_X12_walkerTreads m (nI i) p) fun (x17 : Int32) (m16 : gMem) => some (x17, m16)) := by
    obtain ⟨a, x1, m1, c1, e1, e2, A1, q⟩ := base
    exact ⟨a, x1, m1, c1, e1, by rw [e2, bd2_s], A1, by omega⟩
  have soft : AP w x0 m0 (c + 2) (f_X6_actTreads L x w p) (bd (f_X12_body m (30 : Int32)) fun (m2 : gMem) => bd2 (f_X12_walkerTreads m2 (nI i) (p * (3 : Int32))) fun (x4 : Int32) (m3 : gMem) => some (x4, m3)) := by
    obtain ⟨x1, m1, b1, b2, A1⟩ := a_body (L := L) h K.1 (by omega) 30
    obtain ⟨a, x2, m2, c2, e1, e2, A2, q⟩ := a_t9 (L := L) K A1 (by omega) (p * (3 : Int32))
    refine ⟨a, x2, m2, c2, ?_, ?_, A2, by omega⟩
    · unfold f_X6_actTreads; rw [li30, b1, bd_s, e1, bd2_s]
    · rw [li30, b2, bd_s, e2, bd2_s]
  rcases (show wkd w = 0 ∨ wkd w = 1 ∨ wkd w = 2 ∨ wkd w = 3 ∨ wkd w = 4 ∨ wkd w = 5 ∨ wkd w = 6 by omega) with k | k | k | k | k | k | k
  · simp only [k]; exact base'
  · simp only [k]; exact base'
  · simp only [k]; exact soft
  · simp only [k]; exact base'
  · simp only [k]
    show AP w x0 m0 (c + 2) (f_X7_actTreads L x w p) (bd (f_X12_body m (50 : Int32)) fun (m7 : gMem) => bd2 (f_X12_walkerTreads m7 (nI i) p) fun (x9 : Int32) (m8 : gMem) => some ((-x9), m8))
    obtain ⟨x1, m1, b1, b2, A1⟩ := a_body (L := L) h K.1 (by omega) 50
    obtain ⟨a, x2, m2, c2, e1, e2, A2, q⟩ := a_t9 (L := L) K A1 (by omega) p
    refine ⟨-a, x2, m2, c2, ?_, ?_, A2, by omega⟩
    · unfold f_X7_actTreads; rw [li50, b1, bd_s, e1, bd2_s]
    · rw [li50, b2, bd_s, e2, bd2_s]
  · simp only [k]; exact soft
  · simp only [k]
    show AP w x0 m0 (c + 2) (f_X8_actTreads L x w p) (bd (f_X12_body m (71 : Int32)) fun (m13 : gMem) => bd2 (f_X12_walkerTreads m13 (nI i) p) fun (x15 : Int32) (m14 : gMem) => if okI (nI i) 4 then some ((x15 ^^^ (gI m14 3 i)), m14) else none)
    obtain ⟨x1, m1, b1, b2, A1⟩ := a_body (L := L) h K.1 (by omega) 71
    obtain ⟨a, x2, m2, c2, e1, e2, A2, q⟩ := a_t9 (L := L) K A1 (by omega) p
    refine ⟨a ^^^ gI m0 3 i, x2, m2, c2, ?_, ?_, A2, by omega⟩
    · unfold f_X8_actTreads; rw [li71, b1, bd_s, e1, bd2_s, A2.1 _ _ (by omega), K.2.2.2.2.2]
    · rw [li71, b2, bd_s, e2, bd2_s, if_pos (okN hi (by decide)), A2.2.2.2.1 _ _ (by omega)]
theorem a_g9 (K : AK w i x0 m0) (h : AA w x0 m0 x m c) (hc : c ≤ 48) (p : Int32) : AP w x0 m0 (c + 3) (f_X9_actGoes L x w p) (f_X12_walkerGoes m (nI i) p) := by
  have hi := K.2.1
  obtain ⟨x1, m1, b1, b2, A1⟩ := a_body (L := L) h K.1 (by omega) 11
  obtain ⟨a, x2, m2, c2, e1, e2, A2, q⟩ := a_t (L := L) K A1 (by omega) p
  refine ⟨a - gI m0 3 i, x2, m2, c2, ?_, ?_, A2, by omega⟩
  · unfold f_X9_actGoes; rw [li11, b1, bd_s, e1, bd2_s, A2.1 _ _ (by omega), K.2.2.2.2.2]
  · unfold f_X12_walkerGoes; rw [li11, b2, bd_s, e2, bd2_s, if_pos (okN hi (by decide)), ixN (by omega), A2.2.2.2.1 _ _ (by omega)]
theorem a_g1 (K : AK w i x0 m0) (h : AA w x0 m0 x m c) (hc : c ≤ 46) (p : Int32) : AP w x0 m0 (c + 4) (f_X1_actGoes L x w p) (f_X12_heavyGoes m (nI i) p) := by
  obtain ⟨x1, m1, b1, b2, A1⟩ := a_body (L := L) h K.1 (by omega) 20
  obtain ⟨a, x2, m2, c2, e1, e2, A2, q⟩ := a_g9 (L := L) K A1 (by omega) p
  refine ⟨a ^^^ 6, x2, m2, c2, ?_, ?_, A2, by omega⟩
  · unfold f_X1_actGoes; rw [li20, b1, bd_s, e1, bd2_s]
  · unfold f_X12_heavyGoes; rw [li20, b2, bd_s, e2, bd2_s]
theorem a_g8 (K : AK w i x0 m0) (h : AA w x0 m0 x m c) (hc : c ≤ 46) (p : Int32) : AP w x0 m0 (c + 5) (f_X8_actGoes L x w p) (bd (f_X12_body m (70 : Int32)) fun (m7 : gMem) => bd2 (f_X12_walkerGoes m7 (nI i) p) fun (x9 : Int32) (m8 : gMem) => bd2 (f_X12_walkerTreads m8 (nI i) (2 : Int32)) fun (x11 : Int32) (m10 : gMem) => some ((x9 + x11), m10)) := by
  obtain ⟨x1, m1, b1, b2, A1⟩ := a_body (L := L) h K.1 (by omega) 70
  obtain ⟨a, x2, m2, c2, e1, e2, A2, q⟩ := a_g9 (L := L) K A1 (by omega) p
  obtain ⟨a', x3, m3, c3, e3, e4, A3, q'⟩ := a_t9 (L := L) K A2 (by omega) 2
  refine ⟨a + a', x3, m3, c3, ?_, ?_, A3, by omega⟩
  · unfold f_X8_actGoes; rw [li70, b1, bd_s, e1, bd2_s, e3, bd2_s]
  · rw [li70, b2, bd_s, e2, bd2_s, e4, bd2_s]
theorem a_g (K : AK w i x0 m0) (h : AA w x0 m0 x m c) (hc : c ≤ 40) (p : Int32) : AP w x0 m0 (c + 5) (d_actGoes L x w p) (f_X12_goesAct m (nI i) p) := by
  have hi := K.2.1
  have hk7 := K.2.2.1
  have hk2 : gI m 2 i = nI (wkd w) := (h.2.2.2.1 _ _ (by omega)).trans K.2.2.2.2.1
  unfold d_actGoes f_X12_goesAct
  rw [if_pos (okN hi (by decide)), ixN (by omega), hk2]
  simp only [lt1]
  have base' : AP w x0 m0 (c + 5) (f_X9_actGoes L x w p) (bd2 (f_X12_walkerGoes m (nI i) p) fun (x17 : Int32) (m16 : gMem) => some (x17, m16)) := by
    obtain ⟨a, x1, m1, c1, e1, e2, A1, q⟩ := a_g9 (L := L) K h (by omega) p
    exact ⟨a, x1, m1, c1, e1, by rw [e2, bd2_s], A1, by omega⟩
  rcases (show wkd w = 0 ∨ wkd w = 1 ∨ wkd w = 2 ∨ wkd w = 3 ∨ wkd w = 4 ∨ wkd w = 5 ∨ wkd w = 6 by omega) with k | k | k | k | k | k | k
  · simp only [k]; exact base'
  · simp only [k]
    show AP w x0 m0 (c + 5) (f_X1_actGoes L x w p) (bd2 (f_X12_heavyGoes m (nI i) p) fun (x3 : Int32) (m2 : gMem) => some (x3, m2))
    obtain ⟨a, x1, m1, c1, e1, e2, A1, q⟩ := a_g1 (L := L) K h (by omega) p
    exact ⟨a, x1, m1, c1, e1, by rw [e2, bd2_s], A1, by omega⟩
  · simp only [k]; exact base'
  · simp only [k]; exact base'
  · simp only [k]
    show AP w x0 m0 (c + 5) (f_X7_actGoes L x w p) (bd (f_X12_body m (51 : Int32)) fun (m4 : gMem) => bd2 (f_X12_heavyGoes m4 (nI i) (p + (1 : Int32))) fun (x6 : Int32) (m5 : gMem) => some (x6, m5))
    obtain ⟨x1, m1, b1, b2, A1⟩ := a_body (L := L) h K.1 (by omega) 51
    obtain ⟨a, x2, m2, c2, e1, e2, A2, q⟩ := a_g1 (L := L) K A1 (by omega) (p + 1)
    refine ⟨a, x2, m2, c2, ?_, ?_, A2, by omega⟩
    · unfold f_X7_actGoes; rw [li51, b1, bd_s, e1, bd2_s]
    · rw [li51, b2, bd_s, e2, bd2_s]
  · simp only [k]; exact base'
  · simp only [k]; exact a_g8 K h (by omega) p
theorem a_s9 (K : AK w i x0 m0) (h : AA w x0 m0 x m c) (hc : c ≤ 36) (p : Int32) : AP w x0 m0 (c + 6) (f_X9_actTells L x w p) (f_X12_walkerTells m (nI i) p) := by
  obtain ⟨x1, m1, b1, b2, A1⟩ := a_body (L := L) h K.1 (by omega) 12
  obtain ⟨a, x2, m2, c2, e1, e2, A2, q⟩ := a_g (L := L) K A1 (by omega) p
  refine ⟨a * 2, x2, m2, c2, ?_, ?_, A2, by omega⟩
  · unfold f_X9_actTells; rw [li12, b1, bd_s, e1, bd2_s]
  · unfold f_X12_walkerTells; rw [li12, b2, bd_s, e2, bd2_s]
theorem a_s5 (K : AK w i x0 m0) (h : AA w x0 m0 x m c) (hc : c ≤ 30) (hk : wkd w = 3 ∨ wkd w = 6) (p : Int32) : AP w x0 m0 (c + 12) (f_X5_actTells L x w p) (bd (f_X12_body m (40 : Int32)) fun (m2 : gMem) => bd2 (f_X12_walkerTells m2 (nI i) p) fun (x4 : Int32) (m3 : gMem) => bd2 (f_X12_goesAct m3 (nI i) (1 : Int32)) fun (x6 : Int32) (m5 : gMem) => some ((x4 + x6), m5)) := by
  obtain ⟨x1, m1, b1, b2, A1⟩ := a_body (L := L) h K.1 (by omega) 40
  obtain ⟨a, x2, m2, c2, e1, e2, A2, q⟩ := a_s9 (L := L) K A1 (by omega) p
  obtain ⟨a', x3, m3, c3, e3, e4, A3, q'⟩ := a_g (L := L) K A2 (by omega) 1
  have e5 : d_actGoes_36 L x2 w 1 = some (a', x3) := by
    rw [← e3]
    unfold d_actGoes_36 d_actGoes
    rcases hk with k | k <;> simp only [k] <;> rfl
  refine ⟨a + a', x3, m3, c3, ?_, ?_, A3, by omega⟩
  · unfold f_X5_actTells; rw [li40, b1, bd_s, e1, bd2_s, e5, bd2_s]
  · rw [li40, b2, bd_s, e2, bd2_s, e4, bd2_s]
theorem a_s (K : AK w i x0 m0) (h : AA w x0 m0 x m c) (hc : c ≤ 20) (p : Int32) : AP w x0 m0 (c + 12) (d_actTells L x w p) (f_X12_tellsAct m (nI i) p) := by
  have hi := K.2.1
  have hk7 := K.2.2.1
  have hk2 : gI m 2 i = nI (wkd w) := (h.2.2.2.1 _ _ (by omega)).trans K.2.2.2.2.1
  unfold d_actTells f_X12_tellsAct
  rw [if_pos (okN hi (by decide)), ixN (by omega), hk2]
  simp only [lt1]
  have base' : AP w x0 m0 (c + 12) (f_X9_actTells L x w p) (bd2 (f_X12_walkerTells m (nI i) p) fun (x17 : Int32) (m16 : gMem) => some (x17, m16)) := by
    obtain ⟨a, x1, m1, c1, e1, e2, A1, q⟩ := a_s9 (L := L) K h (by omega) p
    exact ⟨a, x1, m1, c1, e1, by rw [e2, bd2_s], A1, by omega⟩
  have slow := a_s5 (L := L) K h (by omega) (p := p)
  rcases (show wkd w = 0 ∨ wkd w = 1 ∨ wkd w = 2 ∨ wkd w = 3 ∨ wkd w = 4 ∨ wkd w = 5 ∨ wkd w = 6 by omega) with k | k | k | k | k | k | k
  · simp only [k]; exact base'
  · simp only [k]; exact base'
  · simp only [k]; exact base'
  · simp only [k]; exact slow (Or.inl k)
  · simp only [k]; exact base'
  · simp only [k]
    show AP w x0 m0 (c + 12) (f_X0_actTells L x w p) (bd (f_X12_body m (60 : Int32)) fun (m9 : gMem) => bd2 (f_X12_walkerTells m9 (nI i) (p - nI i)) fun (x11 : Int32) (m10 : gMem) => some (x11, m10))
    obtain ⟨x1, m1, b1, b2, A1⟩ := a_body (L := L) h K.1 (by omega) 60
    obtain ⟨a, x2, m2, c2, e1, e2, A2, q⟩ := a_s9 (L := L) K A1 (by omega) (p - nI i)
    refine ⟨a, x2, m2, c2, ?_, ?_, A2, by omega⟩
    · unfold f_X0_actTells; rw [li60, b1, bd_s, A1.1 _ _ (by omega), K.2.2.2.1, e1, bd2_s]
    · rw [li60, b2, bd_s, e2, bd2_s]
  · simp only [k]; exact slow (Or.inr k)
theorem Rel.ac (H : Rel L W N x m) (h1 : AC L x' m') (hx : ∀ o k, ¬ (128 ≤ o ∧ (o % 4 = 0 ∧ k = 5 ∨ o % 4 = 1)) → gI x' o k = gI x o k) (hxJ : ∀ o k, gJ x' o k = gJ x o k) (hxR : ∀ o k, ¬ (o = 0 ∧ k = 8) → gR x' o k = gR x o k) (hm : ∀ o k, ¬ ((o = 0 ∧ k = 68) ∨ o = 35) → gI m' o k = gI m o k) (hmJ : ∀ o k, gJ m' o k = gJ m o k) : Rel L W N x' m' := by
  obtain ⟨hO, hW, hA, hT, hN, hC, hX, hM, hI⟩ := H
  refine ⟨hO.fr (fun o k q => hx o k (by omega)) (fun o k q => hm o k (by omega)), hW.fr (fun o k p q => hx o k (by omega)) (fun k => hxR _ _ (by omega)) (fun o k q => hm o k (by omega)), h1, hT.fr (fun o k q => hx o k (by omega)) (fun k => hxR _ _ (by omega)) (fun o k p q => hxJ o k) (fun o k q => hm o k (by omega)) (fun k => hmJ _ _), hN.fr (fun o k q => hx o k (by omega)) (fun k => hxR _ _ (by omega)) (fun o k q => hm o k (by omega)), hC.fr (hxR _ _ (by omega)) (hm _ _ (by omega)) (hm _ _ (by omega)), hX.fr (fun o k q => hx o k (by omega)) (fun o k q => hm o k (by omega)), hM.fr (hx _ _ (by omega)) (hm _ _ (by omega)) (hm _ _ (by omega)), hI.fr hW (fun o k q => hx o k (by omega)) (hxR _ _ (by omega)) (fun o k q => hm o k (by omega))⟩
theorem op_act (H : Rel L W N x m) (p0 p1 p2 : Int32) : Op L W N (f_X11_act L x p0 p1 p2) (f_X12_act m p0 p1 p2) := by
  obtain ⟨n, hn, en, hW⟩ := H.2.1
  have none' : Rel L W N (gsR x 0 8 none) (gsI m 0 68 (nI 0)) := H.ac (Or.inl ⟨gR_y ⟨rfl, rfl⟩, gI_y ⟨rfl, rfl⟩⟩) (fun _ _ _ => rfl) (fun _ _ => rfl) (fun o k q => gR_n q) (fun o k q => gI_n (by omega)) (fun _ _ => rfl)
  unfold f_X11_act f_X12_act
  rw [x_find H hn en]
  simp only [lt1]
  rw [m_isWalker (m := gsI m 0 68 0) hn ((gI_n (by omega)).trans en), m_in0 p1 2 3 rfl]
  rcases p_in p0 n (by omega) with ⟨i, hi, rfl⟩ | h | h
  rotate_left
  · exact ⟨0, _, _, by simp (disch := omega) only [lt1, jn, bd_s, bd2_s, oc_s, oc_n, li0, li1, li2, li3, li4, li5, li6, li7, li8, li9, li10, li11, li12, li13, li14, li16, li20, li21, li22, li24, li30, li31, li33, li38, li39, li40, li41, li45, li48, li50, li51, li57, li58, li59, li60, li61, li62, li64, li70, li71, li72, li99, li100, li101, li104, li107, li109, li116, li120, li121, li124, li127, li128, li144, li255, li300, li360, li372, li396, li600, li999, li1000, li9960, li9990, li1000000, nI_1, nI_add, pk_sub, pk_mul, pk_div, rem_nI, i_lt, i_le, i_eq, okI, ix, isB, nI_clamp, nI_toInt, tneg, gI_sI, gR_sI, gJ_sI, gI_sR, gR_sR, gJ_sR, gI_sJ, gR_sJ, gJ_sJ, true_and, and_true, false_and, and_false, if_true, if_false, if_pos, if_neg], by simp (disch := omega) only [lt1, jn, bd_s, bd2_s, oc_s, oc_n, li0, li1, li2, li3, li4, li5, li6, li7, li8, li9, li10, li11, li12, li13, li14, li16, li20, li21, li22, li24, li30, li31, li33, li38, li39, li40, li41, li45, li48, li50, li51, li57, li58, li59, li60, li61, li62, li64, li70, li71, li72, li99, li100, li101, li104, li107, li109, li116, li120, li121, li124, li127, li128, li144, li255, li300, li360, li372, li396, li600, li999, li1000, li9960, li9990, li1000000, nI_1, nI_add, pk_sub, pk_mul, pk_div, rem_nI, i_lt, i_le, i_eq, okI, ix, isB, nI_clamp, nI_toInt, tneg, gI_sI, gR_sI, gJ_sI, gI_sR, gR_sR, gJ_sR, gI_sJ, gR_sJ, gJ_sJ, true_and, and_true, false_and, and_false, if_true, if_false, if_pos, if_neg], none'⟩
  · exact ⟨0, _, _, by simp (disch := omega) only [lt1, jn, bd_s, bd2_s, oc_s, oc_n, li0, li1, li2, li3, li4, li5, li6, li7, li8, li9, li10, li11, li12, li13, li14, li16, li20, li21, li22, li24, li30, li31, li33, li38, li39, li40, li41, li45, li48, li50, li51, li57, li58, li59, li60, li61, li62, li64, li70, li71, li72, li99, li100, li101, li104, li107, li109, li116, li120, li121, li124, li127, li128, li144, li255, li300, li360, li372, li396, li600, li999, li1000, li9960, li9990, li1000000, nI_1, nI_add, pk_sub, pk_mul, pk_div, rem_nI, i_lt, i_le, i_eq, okI, ix, isB, nI_clamp, nI_toInt, tneg, gI_sI, gR_sI, gJ_sI, gI_sR, gR_sR, gJ_sR, gI_sJ, gR_sJ, gJ_sJ, true_and, and_true, false_and, and_false, if_true, if_false, if_pos, if_neg], by simp (disch := omega) only [lt1, jn, bd_s, bd2_s, oc_s, oc_n, li0, li1, li2, li3, li4, li5, li6, li7, li8, li9, li10, li11, li12, li13, li14, li16, li20, li21, li22, li24, li30, li31, li33, li38, li39, li40, li41, li45, li48, li50, li51, li57, li58, li59, li60, li61, li62, li64, li70, li71, li72, li99, li100, li101, li104, li107, li109, li116, li120, li121, li124, li127, li128, li144, li255, li300, li360, li372, li396, li600, li999, li1000, li9960, li9990, li1000000, nI_1, nI_add, pk_sub, pk_mul, pk_div, rem_nI, i_lt, i_le, i_eq, okI, ix, isB, nI_clamp, nI_toInt, tneg, gI_sI, gR_sI, gJ_sI, gI_sR, gR_sR, gJ_sR, gI_sJ, gR_sJ, gJ_sJ, true_and, and_true, false_and, and_false, if_true, if_false, if_pos, if_neg], none'⟩
  obtain ⟨q1, q2, q3, q4, q5, q6, q7, q8, q9⟩ := hW.1 i hi
  have z3 := q1.1
  have z4 := q1.2.1
  have hw := eq_true q1
  rcases p_in p1 3 (by decide) with ⟨a, ha, rfl⟩ | h | h
  rotate_left
  · exact ⟨0, _, _, by simp (disch := omega) only [lt1, jn, bd_s, bd2_s, oc_s, oc_n, li0, li1, li2, li3, li4, li5, li6, li7, li8, li9, li10, li11, li12, li13, li14, li16, li20, li21, li22, li24, li30, li31, li33, li38, li39, li40, li41, li45, li48, li50, li51, li57, li58, li59, li60, li61, li62, li64, li70, li71, li72, li99, li100, li101, li104, li107, li109, li116, li120, li121, li124, li127, li128, li144, li255, li300, li360, li372, li396, li600, li999, li1000, li9960, li9990, li1000000, nI_1, nI_add, pk_sub, pk_mul, pk_div, rem_nI, i_lt, i_le, i_eq, okI, ix, isB, nI_clamp, nI_toInt, tneg, gI_sI, gR_sI, gJ_sI, gI_sR, gR_sR, gJ_sR, gI_sJ, gR_sJ, gJ_sJ, true_and, and_true, false_and, and_false, if_true, if_false, if_pos, if_neg, hw], by simp (disch := omega) only [lt1, jn, bd_s, bd2_s, oc_s, oc_n, li0, li1, li2, li3, li4, li5, li6, li7, li8, li9, li10, li11, li12, li13, li14, li16, li20, li21, li22, li24, li30, li31, li33, li38, li39, li40, li41, li45, li48, li50, li51, li57, li58, li59, li60, li61, li62, li64, li70, li71, li72, li99, li100, li101, li104, li107, li109, li116, li120, li121, li124, li127, li128, li144, li255, li300, li360, li372, li396, li600, li999, li1000, li9960, li9990, li1000000, nI_1, nI_add, pk_sub, pk_mul, pk_div, rem_nI, i_lt, i_le, i_eq, okI, ix, isB, nI_clamp, nI_toInt, tneg, gI_sI, gR_sI, gJ_sI, gI_sR, gR_sR, gJ_sR, gI_sJ, gR_sJ, gJ_sJ, true_and, and_true, false_and, and_false, if_true, if_false, if_pos, if_neg], none'⟩
  · exact ⟨0, _, _, by simp (disch := omega) only [lt1, jn, bd_s, bd2_s, oc_s, oc_n, li0, li1, li2, li3, li4, li5, li6, li7, li8, li9, li10, li11, li12, li13, li14, li16, li20, li21, li22, li24, li30, li31, li33, li38, li39, li40, li41, li45, li48, li50, li51, li57, li58, li59, li60, li61, li62, li64, li70, li71, li72, li99, li100, li101, li104, li107, li109, li116, li120, li121, li124, li127, li128, li144, li255, li300, li360, li372, li396, li600, li999, li1000, li9960, li9990, li1000000, nI_1, nI_add, pk_sub, pk_mul, pk_div, rem_nI, i_lt, i_le, i_eq, okI, ix, isB, nI_clamp, nI_toInt, tneg, gI_sI, gR_sI, gJ_sI, gI_sR, gR_sR, gJ_sR, gI_sJ, gR_sJ, gJ_sJ, true_and, and_true, false_and, and_false, if_true, if_false, if_pos, if_neg, hw], by simp (disch := omega) only [lt1, jn, bd_s, bd2_s, oc_s, oc_n, li0, li1, li2, li3, li4, li5, li6, li7, li8, li9, li10, li11, li12, li13, li14, li16, li20, li21, li22, li24, li30, li31, li33, li38, li39, li40, li41, li45, li48, li50, li51, li57, li58, li59, li60, li61, li62, li64, li70, li71, li72, li99, li100, li101, li104, li107, li109, li116, li120, li121, li124, li127, li128, li144, li255, li300, li360, li372, li396, li600, li999, li1000, li9960, li9990, li1000000, nI_1, nI_add, pk_sub, pk_mul, pk_div, rem_nI, i_lt, i_le, i_eq, okI, ix, isB, nI_clamp, nI_toInt, tneg, gI_sI, gR_sI, gJ_sI, gI_sR, gR_sR, gJ_sR, gI_sJ, gR_sJ, gJ_sJ, true_and, and_true, false_and, and_false, if_true, if_false, if_pos, if_neg], none'⟩
  have K : AK (W i) i (gsI (gsR x 0 8 (some (W i))) (W i) 5 (nI 0)) (gsI m 0 68 (nI 0)) := ⟨z3, by omega, q1.2.2.1, by rw [gI_n (by omega)]; exact q3, by rw [gI_n (by omega)]; exact q4, by rw [gI_n (by omega), gI_n (by omega)]; exact q5⟩
  have A0 : AA (W i) (gsI (gsR x 0 8 (some (W i))) (W i) 5 (nI 0)) (gsI m 0 68 (nI 0)) (gsI (gsR x 0 8 (some (W i))) (W i) 5 (nI 0)) (gsI m 0 68 (nI 0)) 0 := ⟨fun _ _ _ => rfl, fun _ _ => rfl, fun _ _ => rfl, fun _ _ _ => rfl, fun _ _ => rfl, fun _ _ => rfl, gI_y ⟨rfl, rfl⟩, gI_y ⟨rfl, rfl⟩, fun _ _ q => by omega⟩
  have fin : ∀ fx fm : Option (Int32 × gMem), AP (W i) (gsI (gsR x 0 8 (some (W i))) (W i) 5 (nI 0)) (gsI m 0 68 (nI 0)) 12 fx fm → ∃ a x' m', fx = some (a, x') ∧ fm = some (a, m') ∧ Rel L W N x' m' := by
    rintro fx fm ⟨a, x', m', c', e1, e2, ⟨h1, h2, h3, h4, h5, h6, h7, h8, h9⟩, hc⟩
    refine ⟨a, x', m', e1, e2, H.ac (Or.inr ⟨W i, c', ?_, q1, h7, h8, by omega, h9⟩) (fun o k q => ?_) (fun o k => h2 o k) (fun o k q => ?_) (fun o k q => ?_) (fun o k => h5 o k)⟩
    · rw [h3, gR_sI, gR_y ⟨rfl, rfl⟩]
    · rw [h1 _ _ (by omega), gI_n (by omega)]; rfl
    · rw [h3, gR_sI, gR_n q]
    · rw [h4 _ _ q, gI_n (by omega)]
  rcases (show a = 0 ∨ a = 1 ∨ a = 2 by omega) with rfl | rfl | rfl
  · obtain ⟨v, x', m', e1, e2, R⟩ := fin _ _ (by obtain ⟨b, x1, m1, c1, d1, d2, A1, q⟩ := a_t (L := L) K A0 (by omega) p2; exact ⟨b, x1, m1, c1, d1, d2, A1, by omega⟩)
    exact ⟨v, x', m', by simp (disch := omega) only [lt1, jn, bd_s, bd2_s, oc_s, oc_n, li0, li1, li2, li3, li4, li5, li6, li7, li8, li9, li10, li11, li12, li13, li14, li16, li20, li21, li22, li24, li30, li31, li33, li38, li39, li40, li41, li45, li48, li50, li51, li57, li58, li59, li60, li61, li62, li64, li70, li71, li72, li99, li100, li101, li104, li107, li109, li116, li120, li121, li124, li127, li128, li144, li255, li300, li360, li372, li396, li600, li999, li1000, li9960, li9990, li1000000, nI_1, nI_add, pk_sub, pk_mul, pk_div, rem_nI, i_lt, i_le, i_eq, okI, ix, isB, nI_clamp, nI_toInt, tneg, gI_sI, gR_sI, gJ_sI, gI_sR, gR_sR, gJ_sR, gI_sJ, gR_sJ, gJ_sJ, true_and, and_true, false_and, and_false, if_true, if_false, if_pos, if_neg, hw, e1], by simp (disch := omega) only [lt1, jn, bd_s, bd2_s, oc_s, oc_n, li0, li1, li2, li3, li4, li5, li6, li7, li8, li9, li10, li11, li12, li13, li14, li16, li20, li21, li22, li24, li30, li31, li33, li38, li39, li40, li41, li45, li48, li50, li51, li57, li58, li59, li60, li61, li62, li64, li70, li71, li72, li99, li100, li101, li104, li107, li109, li116, li120, li121, li124, li127, li128, li144, li255, li300, li360, li372, li396, li600, li999, li1000, li9960, li9990, li1000000, nI_1, nI_add, pk_sub, pk_mul, pk_div, rem_nI, i_lt, i_le, i_eq, okI, ix, isB, nI_clamp, nI_toInt, tneg, gI_sI, gR_sI, gJ_sI, gI_sR, gR_sR, gJ_sR, gI_sJ, gR_sJ, gJ_sJ, true_and, and_true, false_and, and_false, if_true, if_false, if_pos, if_neg, e2], R⟩
  · obtain ⟨v, x', m', e1, e2, R⟩ := fin _ _ (by obtain ⟨b, x1, m1, c1, d1, d2, A1, q⟩ := a_g (L := L) K A0 (by omega) p2; exact ⟨b, x1, m1, c1, d1, d2, A1, by omega⟩)
    exact ⟨v, x', m', by simp (disch := omega) only [lt1, jn, bd_s, bd2_s, oc_s, oc_n, li0, li1, li2, li3, li4, li5, li6, li7, li8, li9, li10, li11, li12, li13, li14, li16, li20, li21, li22, li24, li30, li31, li33, li38, li39, li40, li41, li45, li48, li50, li51, li57, li58, li59, li60, li61, li62, li64, li70, li71, li72, li99, li100, li101, li104, li107, li109, li116, li120, li121, li124, li127, li128, li144, li255, li300, li360, li372, li396, li600, li999, li1000, li9960, li9990, li1000000, nI_1, nI_add, pk_sub, pk_mul, pk_div, rem_nI, i_lt, i_le, i_eq, okI, ix, isB, nI_clamp, nI_toInt, tneg, gI_sI, gR_sI, gJ_sI, gI_sR, gR_sR, gJ_sR, gI_sJ, gR_sJ, gJ_sJ, true_and, and_true, false_and, and_false, if_true, if_false, if_pos, if_neg, hw, e1], by simp (disch := omega) only [lt1, jn, bd_s, bd2_s, oc_s, oc_n, li0, li1, li2, li3, li4, li5, li6, li7, li8, li9, li10, li11, li12, li13, li14, li16, li20, li21, li22, li24, li30, li31, li33, li38, li39, li40, li41, li45, li48, li50, li51, li57, li58, li59, li60, li61, li62, li64, li70, li71, li72, li99, li100, li101, li104, li107, li109, li116, li120, li121, li124, li127, li128, li144, li255, li300, li360, li372, li396, li600, li999, li1000, li9960, li9990, li1000000, nI_1, nI_add, pk_sub, pk_mul, pk_div, rem_nI, i_lt, i_le, i_eq, okI, ix, isB, nI_clamp, nI_toInt, tneg, gI_sI, gR_sI, gJ_sI, gI_sR, gR_sR, gJ_sR, gI_sJ, gR_sJ, gJ_sJ, true_and, and_true, false_and, and_false, if_true, if_false, if_pos, if_neg, e2], R⟩
  · obtain ⟨v, x', m', e1, e2, R⟩ := fin _ _ (by obtain ⟨b, x1, m1, c1, d1, d2, A1, q⟩ := a_s (L := L) K A0 (by omega) p2; exact ⟨b, x1, m1, c1, d1, d2, A1, by omega⟩)
    exact ⟨v, x', m', by simp (disch := omega) only [lt1, jn, bd_s, bd2_s, oc_s, oc_n, li0, li1, li2, li3, li4, li5, li6, li7, li8, li9, li10, li11, li12, li13, li14, li16, li20, li21, li22, li24, li30, li31, li33, li38, li39, li40, li41, li45, li48, li50, li51, li57, li58, li59, li60, li61, li62, li64, li70, li71, li72, li99, li100, li101, li104, li107, li109, li116, li120, li121, li124, li127, li128, li144, li255, li300, li360, li372, li396, li600, li999, li1000, li9960, li9990, li1000000, nI_1, nI_add, pk_sub, pk_mul, pk_div, rem_nI, i_lt, i_le, i_eq, okI, ix, isB, nI_clamp, nI_toInt, tneg, gI_sI, gR_sI, gJ_sI, gI_sR, gR_sR, gJ_sR, gI_sJ, gR_sJ, gJ_sJ, true_and, and_true, false_and, and_false, if_true, if_false, if_pos, if_neg, hw, e1], by simp (disch := omega) only [lt1, jn, bd_s, bd2_s, oc_s, oc_n, li0, li1, li2, li3, li4, li5, li6, li7, li8, li9, li10, li11, li12, li13, li14, li16, li20, li21, li22, li24, li30, li31, li33, li38, li39, li40, li41, li45, li48, li50, li51, li57, li58, li59, li60, li61, li62, li64, li70, li71, li72, li99, li100, li101, li104, li107, li109, li116, li120, li121, li124, li127, li128, li144, li255, li300, li360, li372, li396, li600, li999, li1000, li9960, li9990, li1000000, nI_1, nI_add, pk_sub, pk_mul, pk_div, rem_nI, i_lt, i_le, i_eq, okI, ix, isB, nI_clamp, nI_toInt, tneg, gI_sI, gR_sI, gJ_sI, gI_sR, gR_sR, gJ_sR, gI_sJ, gR_sJ, gJ_sJ, true_and, and_true, false_and, and_false, if_true, if_false, if_pos, if_neg, e2], R⟩
end O10
