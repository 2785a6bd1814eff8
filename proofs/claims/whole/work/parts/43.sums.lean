/-! CLAUSES together; DEPTH -/
def sumN (w : Nat) (fx : Nat → Nat) : List cls → Nat
  | [] => 0
  | c :: r => (if c.1 = w ∧ evb fx c.2.2 = true then c.2.1 else 0) + sumN w fx r
def anyD : List cls → Bool
  | [] => false
  | c :: r => decide (c.1 = 0) || anyD r
theorem sumN_y {w : Nat} {fx : Nat → Nat} {c : cls} {r : List cls} (h1 : c.1 = w) (h2 : evb fx c.2.2 = true) : sumN w fx (c :: r) = c.2.1 + sumN w fx r := by rw [sumN, if_pos ⟨h1, h2⟩]
theorem sumN_n {w : Nat} {fx : Nat → Nat} {c : cls} {r : List cls} (h : ¬ (c.1 = w ∧ evb fx c.2.2 = true)) : sumN w fx (c :: r) = sumN w fx r := by rw [sumN, if_neg h, Nat.zero_add]
theorem sumN_le {w : Nat} {fx : Nat → Nat} {x m : gMem} {g : Nat} : ∀ (P : List cls) (i st : Nat), nOK x m g i st P → sumN w fx P ≤ 99 * P.length
  | [], _, _, _ => Nat.le_refl _
  | c :: r, i, st, h => by
    have h1 := sumN_le (w := w) (fx := fx) r _ _ h.2
    have h2 := h.1.2.2.2.2.2.2.2.1.2.1
    simp only [sumN, List.length_cons]
    split <;> omega
theorem x_deep_loop {x m : gMem} {g n : Nat} (hg : gI x (60 + 5 * g) 0 = nI n) (hn : n ≤ 10) : ∀ (P : List cls) (i st fuel : Nat) (b : Bool), nOK x m g i st P → i + P.length = n → P.length < fuel → lq2 (s_X3_hasDeep_4 x (60 + 5 * g)) fuel (nI (if b then 1 else 0)) (nI i) = some (nI (if b || anyD P then 1 else 0))
  | [], i, st, fuel, b, h, h1, h2 => by
    obtain ⟨f, rfl⟩ : ∃ f, fuel = f + 1 := ⟨fuel - 1, by omega⟩
    rw [lq2_u]
    unfold s_X3_hasDeep_4
    have hi : i = n := by simpa using h1
    have hB : isB (nI (if b then 1 else 0)) := by cases b <;> decide
    rw [hg, if_pos (nI_le (by omega) (by omega)), if_pos hB]
    simp [anyD]
  | c :: r, i, st, fuel, b, h, h1, h2 => by
    obtain ⟨f, rfl⟩ : ∃ f, fuel = f + 1 := ⟨fuel - 1, by omega⟩
    have hl : i < n := by simp at h1; omega
    have ih := fun b' => x_deep_loop hg hn r (i + 1) _ f b' h.2 (by simp at h1; omega) (by simp at h2; omega)
    have hw := h.1.1
    have hw3 := h.1.2.2.2.2.2.2.2.1.1
    rw [lq2_u]
    generalize lq2 (s_X3_hasDeep_4 x (60 + 5 * g)) f = F at ih ⊢
    unfold s_X3_hasDeep_4
    by_cases h0 : c.1 = 0
    · have e : nI (if b then 1 else 0) ||| nI 1 = nI (if true then 1 else 0) := by cases b <;> decide
      have := ih true
      rw [show (b || anyD (c :: r)) = (true || anyD r) by simp [anyD, h0], ← this, ← e]
      simp (disch := omega) only [lt1, jn, bd_s, bd2_s, oc_s, oc_n, li0, li1, li2, li3, li4, li5, li6, li7, li8, li9, li10, li11, li12, li13, li14, li16, li20, li21, li22, li24, li30, li31, li33, li38, li39, li40, li41, li45, li48, li50, li51, li57, li58, li59, li60, li61, li62, li64, li70, li71, li72, li99, li100, li101, li104, li107, li109, li116, li120, li121, li124, li127, li128, li144, li255, li300, li360, li372, li396, li600, li999, li1000, li9960, li9990, li1000000, nI_1, nI_add, pk_sub, pk_mul, pk_div, rem_nI, i_lt, i_le, i_eq, okI, ix, isB, nI_clamp, nI_toInt, tneg, gI_sI, gR_sI, gJ_sI, gI_sR, gR_sR, gJ_sR, gI_sJ, gR_sJ, gJ_sJ, true_and, and_true, false_and, and_false, if_true, if_false, if_pos, if_neg, hg, hw, h0]
    · have e : nI (if b then 1 else 0) ||| nI 0 = nI (if b then 1 else 0) := by cases b <;> decide
      have := ih b
      rw [show (b || anyD (c :: r)) = (b || anyD r) by simp [anyD, h0], ← this]
      simp (disch := omega) only [lt1, jn, bd_s, bd2_s, oc_s, oc_n, li0, li1, li2, li3, li4, li5, li6, li7, li8, li9, li10, li11, li12, li13, li14, li16, li20, li21, li22, li24, li30, li31, li33, li38, li39, li40, li41, li45, li48, li50, li51, li57, li58, li59, li60, li61, li62, li64, li70, li71, li72, li99, li100, li101, li104, li107, li109, li116, li120, li121, li124, li127, li128, li144, li255, li300, li360, li372, li396, li600, li999, li1000, li9960, li9990, li1000000, nI_1, nI_add, pk_sub, pk_mul, pk_div, rem_nI, i_lt, i_le, i_eq, okI, ix, isB, nI_clamp, nI_toInt, tneg, gI_sI, gR_sI, gJ_sI, gI_sR, gR_sR, gJ_sR, gI_sJ, gR_sJ, gJ_sJ, true_and, and_true, false_and, and_false, if_true, if_false, if_pos, if_neg, hg, hw, e]
theorem x_hasDeep {L : List Nat} {x m : gMem} {g : Nat} {P : List cls} (h : ntOK x m g P) : f_X3_hasDeep L x (60 + 5 * g) = some (nI (if anyD P then 1 else 0)) := by
  unfold f_X3_hasDeep
  have := x_deep_loop h.1 h.2.2.1 P 0 0 1000 false h.2.2.2.2 (by omega) (by have := h.2.2.1; omega)
  simp only [Bool.false_eq_true, if_false, Bool.false_or] at this
  exact this
theorem x_tog_loop {L : List Nat} {x m : gMem} {fx : Nat → Nat} {g n w : Nat} (hf : ∀ k, k < 6 → gI x 17 k = nI (fx k)) (hb : ∀ k, k < 6 → fx k < 2 ^ 31) (hg : gI x (60 + 5 * g) 0 = nI n) (hn : n ≤ 10) (hw0 : w < 3) : ∀ (P : List cls) (i st fuel acc : Nat), nOK x m g i st P → i + P.length = n → st + clen P ≤ 100 → P.length < fuel → lq3 (s_X3_together_8 x (60 + 5 * g) (nI w) L) fuel (nI acc) (nI st) (nI i) = some (nI (acc + sumN w fx P))
  | [], i, st, fuel, acc, h, h1, h2, h3 => by
    obtain ⟨f, rfl⟩ : ∃ f, fuel = f + 1 := ⟨fuel - 1, by omega⟩
    have hi : i = n := by simpa using h1
    rw [lq3_u]
    unfold s_X3_together_8
    rw [hg, if_pos (nI_le (by omega) (by omega))]
    rfl
  | c :: r, i, st, fuel, acc, h, h1, h2, h3 => by
    obtain ⟨f, rfl⟩ : ∃ f, fuel = f + 1 := ⟨fuel - 1, by omega⟩
    have hl : i < n := by simp at h1; omega
    obtain ⟨a1, a2, a3, a4, a5, a6, a7, ⟨a8, a9, a10, a11⟩, a12⟩ := h.1
    have hcl : st + (c.2.2.length + clen r) ≤ 100 := h2
    have ih := fun acc' => x_tog_loop (L := L) hf hb hg hn hw0 r (i + 1) (st + c.2.2.length) f acc' h.2 (by simp at h1; omega) (by omega) (by simp at h3; omega)
    have hh := x_holds (L := L) (g := 60 + 5 * g) hf hb (i := st) (p := c.2.2) (by omega) a10 (fun j hj => (a12 j hj).1) a11
    rw [lq3_u]
    generalize lq3 (s_X3_together_8 x (60 + 5 * g) (nI w) L) f = F at ih ⊢
    unfold s_X3_together_8
    by_cases hw : c.1 = w
    · by_cases hv : evb fx c.2.2 = true
      · have := ih (acc + c.2.1)
        rw [hv] at hh
        rw [sumN_y hw hv, ← Nat.add_assoc, ← this]
        simp (disch := omega) only [lt1, jn, bd_s, bd2_s, oc_s, oc_n, li0, li1, li2, li3, li4, li5, li6, li7, li8, li9, li10, li11, li12, li13, li14, li16, li20, li21, li22, li24, li30, li31, li33, li38, li39, li40, li41, li45, li48, li50, li51, li57, li58, li59, li60, li61, li62, li64, li70, li71, li72, li99, li100, li101, li104, li107, li109, li116, li120, li121, li124, li127, li128, li144, li255, li300, li360, li372, li396, li600, li999, li1000, li9960, li9990, li1000000, nI_1, nI_add, pk_sub, pk_mul, pk_div, rem_nI, i_lt, i_le, i_eq, okI, ix, isB, nI_clamp, nI_toInt, tneg, gI_sI, gR_sI, gJ_sI, gI_sR, gR_sR, gJ_sR, gI_sJ, gR_sJ, gJ_sJ, true_and, and_true, false_and, and_false, if_true, if_false, if_pos, if_neg, hg, a1, a3, a5, hh, hw]
      · have := ih acc
        have hv' : evb fx c.2.2 = false := by simpa using hv
        rw [hv'] at hh
        rw [sumN_n (fun q => hv q.2), ← this]
        simp (disch := omega) only [lt1, jn, bd_s, bd2_s, oc_s, oc_n, li0, li1, li2, li3, li4, li5, li6, li7, li8, li9, li10, li11, li12, li13, li14, li16, li20, li21, li22, li24, li30, li31, li33, li38, li39, li40, li41, li45, li48, li50, li51, li57, li58, li59, li60, li61, li62, li64, li70, li71, li72, li99, li100, li101, li104, li107, li109, li116, li120, li121, li124, li127, li128, li144, li255, li300, li360, li372, li396, li600, li999, li1000, li9960, li9990, li1000000, nI_1, nI_add, pk_sub, pk_mul, pk_div, rem_nI, i_lt, i_le, i_eq, okI, ix, isB, nI_clamp, nI_toInt, tneg, gI_sI, gR_sI, gJ_sI, gI_sR, gR_sR, gJ_sR, gI_sJ, gR_sJ, gJ_sJ, true_and, and_true, false_and, and_false, if_true, if_false, if_pos, if_neg, hg, a1, a3, a5, hh, hw, Bool.false_eq_true]
    · have := ih acc
      rw [sumN_n (fun q => hw q.1), ← this]
      simp (disch := omega) only [lt1, jn, bd_s, bd2_s, oc_s, oc_n, li0, li1, li2, li3, li4, li5, li6, li7, li8, li9, li10, li11, li12, li13, li14, li16, li20, li21, li22, li24, li30, li31, li33, li38, li39, li40, li41, li45, li48, li50, li51, li57, li58, li59, li60, li61, li62, li64, li70, li71, li72, li99, li100, li101, li104, li107, li109, li116, li120, li121, li124, li127, li128, li144, li255, li300, li360, li372, li396, li600, li999, li1000, li9960, li9990, li1000000, nI_1, nI_add, pk_sub, pk_mul, pk_div, rem_nI, i_lt, i_le, i_eq, okI, ix, isB, nI_clamp, nI_toInt, tneg, gI_sI, gR_sI, gJ_sI, gI_sR, gR_sR, gJ_sR, gI_sJ, gR_sJ, gJ_sJ, true_and, and_true, false_and, and_false, if_true, if_false, if_pos, if_neg, hg, a1, a5]
theorem x_tog {L : List Nat} {x m : gMem} {fx : Nat → Nat} {g w : Nat} {P : List cls} (hf : ∀ k, k < 6 → gI x 17 k = nI (fx k)) (hb : ∀ k, k < 6 → fx k < 2 ^ 31) (h : ntOK x m g P) (hw0 : w < 3) : f_X3_together L x (60 + 5 * g) (nI w) = some (nI (sumN w fx P)) := by
  unfold f_X3_together
  have := x_tog_loop (L := L) hf hb h.1 h.2.2.1 hw0 P 0 0 1000 0 h.2.2.2.2 (by omega) (by have := h.2.2.2.1; omega) (by have := h.2.2.1; omega)
  rw [Nat.zero_add] at this
  exact this
/-- the reference's sum -/
theorem m_sum_loop {x m0 : gMem} {fx : Nat → Nat} {g n w : Nat} {p1 p2 p3 : Int32} (hg6 : g < 6) (hthe : gI m0 0 12 = nI g) (hg : gI m0 7 g = nI n) (hn : n ≤ 10) (hw0 : w < 3) (hF : ∀ mm : gMem, (∀ o k, o ≠ 15 → gI mm o k = gI m0 o k) → ∀ f, f < 6 → f_X12_factOf mm (nI f) p1 p2 p3 = some (nI (fx f))) (hb : ∀ k, k < 6 → fx k < 2 ^ 31) : ∀ (P : List cls) (i st fuel acc : Nat) (mm : gMem), nOK x m0 g i st P → i + P.length = n → st + clen P ≤ 100 → P.length < fuel → (∀ o k, o ≠ 15 → gI mm o k = gI m0 o k) → ∃ m', lq3 (s_X12_sumOf_9 (nI w) p1 p2 p3) fuel (nI acc) (nI (10 * g + i)) mm = some (nI (acc + sumN w fx P), m') ∧ (∀ o k, o ≠ 15 → gI m' o k = gI m0 o k) ∧ (∀ o k, gJ m' o k = gJ mm o k) ∧ ∀ o k, gR m' o k = gR mm o k
  | [], i, st, fuel, acc, mm, h, h1, h2, h3, h4 => by
    obtain ⟨f, rfl⟩ : ∃ f, fuel = f + 1 := ⟨fuel - 1, by omega⟩
    have hi : i = n := by simpa using h1
    have e1 := (h4 0 12 (by omega)).trans hthe
    have e2 := (h4 7 g (by omega)).trans hg
    refine ⟨mm, ?_, h4, fun _ _ => rfl, fun _ _ => rfl⟩
    rw [lq3_u]
    generalize lq3 (s_X12_sumOf_9 (nI w) p1 p2 p3) f = F
    unfold s_X12_sumOf_9 f_X12_behind
    rw [e1, if_pos (nI_pos' (by omega)), if_pos (okN hg6 (by decide)), ixN (by omega), e2, li10, pk_mul, nI_add, bd_s, if_pos (nI_le (by omega) (by omega))]
    rfl
  | c :: r, i, st, fuel, acc, mm, h, h1, h2, h3, h4 => by
    obtain ⟨f, rfl⟩ : ∃ f, fuel = f + 1 := ⟨fuel - 1, by omega⟩
    have hl : i < n := by simp at h1; omega
    obtain ⟨a1, a2, a3, a4, a5, a6, a7, ⟨a8, a9, a10, a11⟩, a12⟩ := h.1
    have hcl : st + (c.2.2.length + clen r) ≤ 100 := h2
    have e1 := (h4 0 12 (by omega)).trans hthe
    have e2 := (h4 7 g (by omega)).trans hg
    have e3 := (h4 8 (10 * g + i) (by omega)).trans a2
    have e4 := (h4 10 (10 * g + i) (by omega)).trans a6
    have hl2 : ∀ z : Nat, z = 10 * g + i + 1 → z = 10 * g + (i + 1) := fun z hz => by omega
    have ih := fun acc' mm' hmm => m_sum_loop hg6 hthe hg hn hw0 hF hb r (i + 1) (st + c.2.2.length) f acc' mm' h.2 (by simp at h1; omega) (by omega) (by simp at h3; omega) hmm
    obtain ⟨m1, d1, d2, d3, d4⟩ := m_holds_loop (m0 := m0) (c := 10 * g + i) (e := 100 * g + st + c.2.2.length) (by omega) (by omega) a7 hF hb c.2.2 (100 * g + st) [] 1000 mm (by omega) (by omega) a10 (fun j hj => (a12 j hj).2) a11 (by simp) trivial h4
    have e5 := (d2 9 (10 * g + i) (by omega)).trans a4
    have hh : f_X12_holds mm (nI (10 * g + i)) p1 p2 p3 = some (nI (if evb fx c.2.2 = true then 1 else 0), m1) := by
      unfold f_X12_holds
      rw [if_pos (okN (show 10 * g + i < 60 by omega) (by decide)), ixN (by omega), e4, lt1_s]
      exact d1
    rw [lq3_u]
    generalize lq3 (s_X12_sumOf_9 (nI w) p1 p2 p3) f = F at ih ⊢
    unfold s_X12_sumOf_9 f_X12_behind
    by_cases hw : c.1 = w
    · by_cases hv : evb fx c.2.2 = true
      · obtain ⟨m', b1, b2, b3, b4⟩ := ih (acc + c.2.1) m1 d2
        refine ⟨m', ?_, b2, fun o k => (b3 o k).trans (d3 o k), fun o k => (b4 o k).trans (d4 o k)⟩
        rw [hv] at hh
        rw [sumN_y hw hv, ← Nat.add_assoc, ← b1]
        simp (disch := omega) only [lt1, jn, bd_s, bd2_s, oc_s, oc_n, li0, li1, li2, li3, li4, li5, li6, li7, li8, li9, li10, li11, li12, li13, li14, li16, li20, li21, li22, li24, li30, li31, li33, li38, li39, li40, li41, li45, li48, li50, li51, li57, li58, li59, li60, li61, li62, li64, li70, li71, li72, li99, li100, li101, li104, li107, li109, li116, li120, li121, li124, li127, li128, li144, li255, li300, li360, li372, li396, li600, li999, li1000, li9960, li9990, li1000000, nI_1, nI_add, pk_sub, pk_mul, pk_div, rem_nI, i_lt, i_le, i_eq, okI, ix, isB, nI_clamp, nI_toInt, tneg, gI_sI, gR_sI, gJ_sI, gI_sR, gR_sR, gJ_sR, gI_sJ, gR_sJ, gJ_sJ, true_and, and_true, false_and, and_false, if_true, if_false, if_pos, if_neg, e1, e2, e3, e5, hh, hw, Nat.add_assoc]
      · obtain ⟨m', b1, b2, b3, b4⟩ := ih acc m1 d2
        have hv' : evb fx c.2.2 = false := by simpa using hv
        refine ⟨m', ?_, b2, fun o k => (b3 o k).trans (d3 o k), fun o k => (b4 o k).trans (d4 o k)⟩
        rw [hv'] at hh
        rw [sumN_n (fun q => hv q.2), ← b1]
        simp (disch := omega) only [lt1, jn, bd_s, bd2_s, oc_s, oc_n, li0, li1, li2, li3, li4, li5, li6, li7, li8, li9, li10, li11, li12, li13, li14, li16, li20, li21, li22, li24, li30, li31, li33, li38, li39, li40, li41, li45, li48, li50, li51, li57, li58, li59, li60, li61, li62, li64, li70, li71, li72, li99, li100, li101, li104, li107, li109, li116, li120, li121, li124, li127, li128, li144, li255, li300, li360, li372, li396, li600, li999, li1000, li9960, li9990, li1000000, nI_1, nI_add, pk_sub, pk_mul, pk_div, rem_nI, i_lt, i_le, i_eq, okI, ix, isB, nI_clamp, nI_toInt, tneg, gI_sI, gR_sI, gJ_sI, gI_sR, gR_sR, gJ_sR, gI_sJ, gR_sJ, gJ_sJ, true_and, and_true, false_and, and_false, if_true, if_false, if_pos, if_neg, e1, e2, e3, hh, hw, Bool.false_eq_true, Nat.add_assoc, Nat.add_zero]
    · obtain ⟨m', b1, b2, b3, b4⟩ := ih acc mm h4
      refine ⟨m', ?_, b2, b3, b4⟩
      rw [sumN_n (fun q => hw q.1), ← b1]
      simp (disch := omega) only [lt1, jn, bd_s, bd2_s, oc_s, oc_n, li0, li1, li2, li3, li4, li5, li6, li7, li8, li9, li10, li11, li12, li13, li14, li16, li20, li21, li22, li24, li30, li31, li33, li38, li39, li40, li41, li45, li48, li50, li51, li57, li58, li59, li60, li61, li62, li64, li70, li71, li72, li99, li100, li101, li104, li107, li109, li116, li120, li121, li124, li127, li128, li144, li255, li300, li360, li372, li396, li600, li999, li1000, li9960, li9990, li1000000, nI_1, nI_add, pk_sub, pk_mul, pk_div, rem_nI, i_lt, i_le, i_eq, okI, ix, isB, nI_clamp, nI_toInt, tneg, gI_sI, gR_sI, gJ_sI, gI_sR, gR_sR, gJ_sR, gI_sJ, gR_sJ, gJ_sJ, true_and, and_true, false_and, and_false, if_true, if_false, if_pos, if_neg, e1, e2, e3, Nat.add_assoc, Nat.add_zero]
theorem m_sum {x m0 : gMem} {fx : Nat → Nat} {g w : Nat} {P : List cls} {p1 p2 p3 : Int32} (hg6 : g < 6) (hthe : gI m0 0 12 = nI g) (h : ntOK x m0 g P) (hw0 : w < 3) (hF : ∀ mm : gMem, (∀ o k, o ≠ 15 → gI mm o k = gI m0 o k) → ∀ f, f < 6 → f_X12_factOf mm (nI f) p1 p2 p3 = some (nI (fx f))) (hb : ∀ k, k < 6 → fx k < 2 ^ 31) {mm : gMem} (h4 : ∀ o k, o ≠ 15 → gI mm o k = gI m0 o k) : ∃ m', f_X12_sumOf mm (nI w) p1 p2 p3 = some (nI (sumN w fx P), m') ∧ (∀ o k, o ≠ 15 → gI m' o k = gI m0 o k) ∧ (∀ o k, gJ m' o k = gJ mm o k) ∧ ∀ o k, gR m' o k = gR mm o k := by
  obtain ⟨m', b1, b2, b3, b4⟩ := m_sum_loop hg6 hthe h.2.1 h.2.2.1 hw0 hF hb P 0 0 1000 0 mm h.2.2.2.2 (by omega) (by have := h.2.2.2.1; omega) (by have := h.2.2.1; omega) h4
  refine ⟨m', ?_, b2, b3, b4⟩
  rw [Nat.zero_add] at b1
  rw [← b1]
  unfold f_X12_sumOf f_X12_begin
  have e1 := (h4 0 12 (by omega)).trans hthe
  simp (disch := omega) only [lt1, jn, bd_s, bd2_s, oc_s, oc_n, li0, li1, li2, li3, li4, li5, li6, li7, li8, li9, li10, li11, li12, li13, li14, li16, li20, li21, li22, li24, li30, li31, li33, li38, li39, li40, li41, li45, li48, li50, li51, li57, li58, li59, li60, li61, li62, li64, li70, li71, li72, li99, li100, li101, li104, li107, li109, li116, li120, li121, li124, li127, li128, li144, li255, li300, li360, li372, li396, li600, li999, li1000, li9960, li9990, li1000000, nI_1, nI_add, pk_sub, pk_mul, pk_div, rem_nI, i_lt, i_le, i_eq, okI, ix, isB, nI_clamp, nI_toInt, tneg, gI_sI, gR_sI, gJ_sI, gI_sR, gR_sR, gJ_sR, gI_sJ, gR_sJ, gJ_sJ, true_and, and_true, false_and, and_false, if_true, if_false, if_pos, if_neg, e1, Nat.add_zero]
theorem m_deep_loop {x m : gMem} {g n : Nat} (hg6 : g < 6) (hthe : gI m 0 12 = nI g) (hg : gI m 7 g = nI n) (hn : n ≤ 10) : ∀ (P : List cls) (i st fuel : Nat), nOK x m g i st P → i + P.length = n → P.length < fuel → lq1 (s_X12_hasDeep_5 m) fuel (nI (10 * g + i)) = some (nI (if anyD P then 1 else 0))
  | [], i, st, fuel, h, h1, h2 => by
    obtain ⟨f, rfl⟩ : ∃ f, fuel = f + 1 := ⟨fuel - 1, by omega⟩
    rw [lq1_u]
    unfold s_X12_hasDeep_5 f_X12_behind
    have hi : i = n := by simpa using h1
    simp (disch := omega) only [lt1, jn, bd_s, bd2_s, oc_s, oc_n, li0, li1, li2, li3, li4, li5, li6, li7, li8, li9, li10, li11, li12, li13, li14, li16, li20, li21, li22, li24, li30, li31, li33, li38, li39, li40, li41, li45, li48, li50, li51, li57, li58, li59, li60, li61, li62, li64, li70, li71, li72, li99, li100, li101, li104, li107, li109, li116, li120, li121, li124, li127, li128, li144, li255, li300, li360, li372, li396, li600, li999, li1000, li9960, li9990, li1000000, nI_1, nI_add, pk_sub, pk_mul, pk_div, rem_nI, i_lt, i_le, i_eq, okI, ix, isB, nI_clamp, nI_toInt, tneg, gI_sI, gR_sI, gJ_sI, gI_sR, gR_sR, gJ_sR, gI_sJ, gR_sJ, gJ_sJ, true_and, and_true, false_and, and_false, if_true, if_false, if_pos, if_neg, hthe, hg]
    rfl
  | c :: r, i, st, fuel, h, h1, h2 => by
    obtain ⟨f, rfl⟩ : ∃ f, fuel = f + 1 := ⟨fuel - 1, by omega⟩
    have hl : i < n := by simp at h1; omega
    have ih := m_deep_loop hg6 hthe hg hn r (i + 1) _ f h.2 (by simp at h1; omega) (by simp at h2; omega)
    have hw := h.1.2.1
    have hw3 := h.1.2.2.2.2.2.2.2.1.1
    rw [lq1_u]
    generalize lq1 (s_X12_hasDeep_5 m) f = F at ih ⊢
    unfold s_X12_hasDeep_5 f_X12_behind
    by_cases h0 : c.1 = 0
    · rw [show anyD (c :: r) = true by simp [anyD, h0]]
      simp (disch := omega) only [lt1, jn, bd_s, bd2_s, oc_s, oc_n, li0, li1, li2, li3, li4, li5, li6, li7, li8, li9, li10, li11, li12, li13, li14, li16, li20, li21, li22, li24, li30, li31, li33, li38, li39, li40, li41, li45, li48, li50, li51, li57, li58, li59, li60, li61, li62, li64, li70, li71, li72, li99, li100, li101, li104, li107, li109, li116, li120, li121, li124, li127, li128, li144, li255, li300, li360, li372, li396, li600, li999, li1000, li9960, li9990, li1000000, nI_1, nI_add, pk_sub, pk_mul, pk_div, rem_nI, i_lt, i_le, i_eq, okI, ix, isB, nI_clamp, nI_toInt, tneg, gI_sI, gR_sI, gJ_sI, gI_sR, gR_sR, gJ_sR, gI_sJ, gR_sJ, gJ_sJ, true_and, and_true, false_and, and_false, if_true, if_false, if_pos, if_neg, hthe, hg, hw, h0]
    · rw [show anyD (c :: r) = anyD r by simp [anyD, h0], ← ih]
      simp (disch := omega) only [lt1, jn, bd_s, bd2_s, oc_s, oc_n, li0, li1, li2, li3, li4, li5, li6, li7, li8, li9, li10, li11, li12, li13, li14, li16, li20, li21, li22, li24, li30, li31, li33, li38, li39, li40, li41, li45, li48, li50, li51, li57, li58, li59, li60, li61, li62, li64, li70, li71, li72, li99, li100, li101, li104, li107, li109, li116, li120, li121, li124, li127, li128, li144, li255, li300, li360, li372, li396, li600, li999, li1000, li9960, li9990, li1000000, nI_1, nI_add, pk_sub, pk_mul, pk_div, rem_nI, i_lt, i_le, i_eq, okI, ix, isB, nI_clamp, nI_toInt, tneg, gI_sI, gR_sI, gJ_sI, gI_sR, gR_sR, gJ_sR, gI_sJ, gR_sJ, gJ_sJ, true_and, and_true, false_and, and_false, if_true, if_false, if_pos, if_neg, hthe, hg, hw, Nat.add_assoc]
theorem m_hasDeep {x m : gMem} {g : Nat} {P : List cls} (hg6 : g < 6) (hthe : gI m 0 12 = nI g) (h : ntOK x m g P) : f_X12_hasDeep m = some (nI (if anyD P then 1 else 0)) := by
  unfold f_X12_hasDeep f_X12_begin
  have := m_deep_loop hg6 hthe h.2.1 h.2.2.1 P 0 0 1000 h.2.2.2.2 (by omega) (by have := h.2.2.1; omega)
  rw [Nat.add_zero] at this
  rw [← this]
  simp (disch := omega) only [lt1, jn, bd_s, bd2_s, oc_s, oc_n, li0, li1, li2, li3, li4, li5, li6, li7, li8, li9, li10, li11, li12, li13, li14, li16, li20, li21, li22, li24, li30, li31, li33, li38, li39, li40, li41, li45, li48, li50, li51, li57, li58, li59, li60, li61, li62, li64, li70, li71, li72, li99, li100, li101, li104, li107, li109, li116, li120, li121, li124, li127, li128, li144, li255, li300, li360, li372, li396, li600, li999, li1000, li9960, li9990, li1000000, nI_1, nI_add, pk_sub, pk_mul, pk_div, rem_nI, i_lt, i_le, i_eq, okI, ix, isB, nI_clamp, nI_toInt, tneg, gI_sI, gR_sI, gJ_sI, gI_sR, gR_sR, gJ_sR, gI_sJ, gR_sJ, gJ_sJ, true_and, and_true, false_and, and_false, if_true, if_false, if_pos, if_neg, hthe]
