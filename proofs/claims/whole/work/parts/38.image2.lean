/-! image, undo: the calls -/
theorem gI_n {m : gMem} {o k : Nat} {v : Int32} {o' k' : Nat} (h : ¬ (o' = o ∧ k' = k)) : gI (gsI m o k v) o' k' = gI m o' k' := by rw [gI_sI, if_neg h]
theorem gI_y {m : gMem} {o k : Nat} {v : Int32} {o' k' : Nat} (h : o' = o ∧ k' = k) : gI (gsI m o k v) o' k' = v := by rw [gI_sI, if_pos h]
theorem gJ_n {m : gMem} {o k : Nat} {v : Int64} {o' k' : Nat} (h : ¬ (o' = o ∧ k' = k)) : gJ (gsJ m o k v) o' k' = gJ m o' k' := by rw [gJ_sJ, if_neg h]
theorem gJ_y {m : gMem} {o k : Nat} {v : Int64} {o' k' : Nat} (h : o' = o ∧ k' = k) : gJ (gsJ m o k v) o' k' = v := by rw [gJ_sJ, if_pos h]
theorem gR_n {m : gMem} {o k : Nat} {v : Option Nat} {o' k' : Nat} (h : ¬ (o' = o ∧ k' = k)) : gR (gsR m o k v) o' k' = gR m o' k' := by rw [gR_sR, if_neg h]
theorem gR_y {m : gMem} {o k : Nat} {v : Option Nat} {o' k' : Nat} (h : o' = o ∧ k' = k) : gR (gsR m o k v) o' k' = v := by rw [gR_sR, if_pos h]
theorem gI_cn {m : gMem} {a b n o k : Nat} (h : ¬ (o = b ∧ k < n)) : gI (gcp m a b n) o k = gI m o k := by rw [gI_cp, if_neg h]
theorem gI_cy {m : gMem} {a b n o k : Nat} (h : o = b ∧ k < n) : gI (gcp m a b n) o k = gI m a k := by rw [gI_cp, if_pos h]
section O7
variable {L : List Nat} {W : Nat → Nat} {N : Nat → List cls} {x m x' m' : gMem}
theorem m_un1 (J : gMem → Option (Int32 × gMem)) : ∀ (d k fuel : Nat) (mm : gMem), d + k = 12 → d < fuel → ∃ m', lq2 (s_X12_undo_92 J) fuel (nI k) mm = J m' ∧ (∀ o c, gJ m' o c = gJ mm o c) ∧ (∀ o c, gR m' o c = gR mm o c) ∧ ∀ o c, gI m' o c = if k ≤ c ∧ c < 12 then (if o = 1 then gI mm 25 c else if o = 16 then gI mm 30 c else if o = 24 then gI mm 33 c else gI mm o c) else gI mm o c
  | 0, k, fuel, mm, h1, h2 => by
    obtain ⟨f, rfl⟩ : ∃ f, fuel = f + 1 := ⟨fuel - 1, by omega⟩
    refine ⟨mm, ?_, fun _ _ => rfl, fun _ _ => rfl, fun o c => by rw [if_neg (by omega)]⟩
    rw [lq2_u]
    unfold s_X12_undo_92
    simp (disch := omega) only [lt1, jn, bd_s, bd2_s, oc_s, oc_n, li0, li1, li2, li3, li4, li5, li6, li7, li8, li9, li10, li11, li12, li13, li14, li16, li20, li21, li22, li24, li30, li31, li33, li38, li39, li40, li41, li45, li48, li50, li51, li57, li58, li59, li60, li61, li62, li64, li70, li71, li72, li99, li100, li101, li104, li107, li109, li116, li120, li121, li124, li127, li128, li144, li255, li300, li360, li372, li396, li600, li999, li1000, li9960, li9990, li1000000, nI_1, nI_add, pk_sub, pk_mul, pk_div, rem_nI, i_lt, i_le, i_eq, okI, ix, isB, nI_clamp, nI_toInt, tneg, gI_sI, gR_sI, gJ_sI, gI_sR, gR_sR, gJ_sR, gI_sJ, gR_sJ, gJ_sJ, true_and, and_true, false_and, and_false, if_true, if_false, if_pos, if_neg]
  | d + 1, k, fuel, mm, h1, h2 => by
    obtain ⟨f, rfl⟩ : ∃ f, fuel = f + 1 := ⟨fuel - 1, by omega⟩
    obtain ⟨m', e1, e2, e3, e4⟩ := m_un1 J d (k + 1) f (gsI (gsI (gsI mm 1 k (gI mm 25 k)) 16 k (gI mm 30 k)) 24 k (gI mm 33 k)) (by omega) (by omega)
    refine ⟨m', ?_, e2, e3, fun o c => ?_⟩
    · rw [← e1, lq2_u]
      generalize lq2 (s_X12_undo_92 J) f = F
      unfold s_X12_undo_92
      simp (disch := omega) only [lt1, jn, bd_s, bd2_s, oc_s, oc_n, li0, li1, li2, li3, li4, li5, li6, li7, li8, li9, li10, li11, li12, li13, li14, li16, li20, li21, li22, li24, li30, li31, li33, li38, li39, li40, li41, li45, li48, li50, li51, li57, li58, li59, li60, li61, li62, li64, li70, li71, li72, li99, li100, li101, li104, li107, li109, li116, li120, li121, li124, li127, li128, li144, li255, li300, li360, li372, li396, li600, li999, li1000, li9960, li9990, li1000000, nI_1, nI_add, pk_sub, pk_mul, pk_div, rem_nI, i_lt, i_le, i_eq, okI, ix, isB, nI_clamp, nI_toInt, tneg, gI_sI, gR_sI, gJ_sI, gI_sR, gR_sR, gJ_sR, gI_sJ, gR_sJ, gJ_sJ, true_and, and_true, false_and, and_false, if_true, if_false, if_pos, if_neg]
    · rw [e4]
      by_cases h1 : c = k
      · subst h1
        by_cases h3 : o = 1
        · subst h3; simp (disch := omega) only [gI_sI, gJ_sI, gR_sI, gI_sJ, gJ_sJ, gR_sJ, gI_sR, gJ_sR, gR_sR, gI_cp, gJ_cp, gR_cp, true_and, and_true, if_true, if_false, if_pos, if_neg]
        by_cases h4 : o = 16
        · subst h4; simp (disch := omega) only [gI_sI, gJ_sI, gR_sI, gI_sJ, gJ_sJ, gR_sJ, gI_sR, gJ_sR, gR_sR, gI_cp, gJ_cp, gR_cp, true_and, and_true, if_true, if_false, if_pos, if_neg]
        by_cases h5 : o = 24
        · subst h5; simp (disch := omega) only [gI_sI, gJ_sI, gR_sI, gI_sJ, gJ_sJ, gR_sJ, gI_sR, gJ_sR, gR_sR, gI_cp, gJ_cp, gR_cp, true_and, and_true, if_true, if_false, if_pos, if_neg]
        simp (disch := omega) only [gI_sI, gJ_sI, gR_sI, gI_sJ, gJ_sJ, gR_sJ, gI_sR, gJ_sR, gR_sR, gI_cp, gJ_cp, gR_cp, true_and, and_true, if_true, if_false, if_pos, if_neg]
      · by_cases h2 : k + 1 ≤ c ∧ c < 12
        · by_cases h3 : o = 1
          · subst h3; simp (disch := omega) only [gI_sI, gJ_sI, gR_sI, gI_sJ, gJ_sJ, gR_sJ, gI_sR, gJ_sR, gR_sR, gI_cp, gJ_cp, gR_cp, true_and, and_true, if_true, if_false, if_pos, if_neg]
          by_cases h4 : o = 16
          · subst h4; simp (disch := omega) only [gI_sI, gJ_sI, gR_sI, gI_sJ, gJ_sJ, gR_sJ, gI_sR, gJ_sR, gR_sR, gI_cp, gJ_cp, gR_cp, true_and, and_true, if_true, if_false, if_pos, if_neg]
          by_cases h5 : o = 24
          · subst h5; simp (disch := omega) only [gI_sI, gJ_sI, gR_sI, gI_sJ, gJ_sJ, gR_sJ, gI_sR, gJ_sR, gR_sR, gI_cp, gJ_cp, gR_cp, true_and, and_true, if_true, if_false, if_pos, if_neg]
          simp (disch := omega) only [gI_sI, gJ_sI, gR_sI, gI_sJ, gJ_sJ, gR_sJ, gI_sR, gJ_sR, gR_sR, gI_cp, gJ_cp, gR_cp, true_and, and_true, if_true, if_false, if_pos, if_neg]
        · simp (disch := omega) only [gI_sI, gJ_sI, gR_sI, gI_sJ, gJ_sJ, gR_sJ, gI_sR, gJ_sR, gR_sR, gI_cp, gJ_cp, gR_cp, true_and, and_true, if_true, if_false, if_pos, if_neg]
theorem m_un2 (J : gMem → Option (Int32 × gMem)) : ∀ (d k fuel : Nat) (mm : gMem), d + k = 4 → d < fuel → ∃ m', lq2 (s_X12_undo_142 J) fuel (nI k) mm = J m' ∧ (∀ o c, gJ m' o c = gJ mm o c) ∧ (∀ o c, gR m' o c = gR mm o c) ∧ ∀ o c, gI m' o c = if k ≤ c ∧ c < 4 then (if o = 2 then gI mm 26 c else if o = 3 then gI mm 27 c else if o = 4 then gI mm 28 c else gI mm o c) else gI mm o c
  | 0, k, fuel, mm, h1, h2 => by
    obtain ⟨f, rfl⟩ : ∃ f, fuel = f + 1 := ⟨fuel - 1, by omega⟩
    refine ⟨mm, ?_, fun _ _ => rfl, fun _ _ => rfl, fun o c => by rw [if_neg (by omega)]⟩
    rw [lq2_u]
    unfold s_X12_undo_142
    simp (disch := omega) only [lt1, jn, bd_s, bd2_s, oc_s, oc_n, li0, li1, li2, li3, li4, li5, li6, li7, li8, li9, li10, li11, li12, li13, li14, li16, li20, li21, li22, li24, li30, li31, li33, li38, li39, li40, li41, li45, li48, li50, li51, li57, li58, li59, li60, li61, li62, li64, li70, li71, li72, li99, li100, li101, li104, li107, li109, li116, li120, li121, li124, li127, li128, li144, li255, li300, li360, li372, li396, li600, li999, li1000, li9960, li9990, li1000000, nI_1, nI_add, pk_sub, pk_mul, pk_div, rem_nI, i_lt, i_le, i_eq, okI, ix, isB, nI_clamp, nI_toInt, tneg, gI_sI, gR_sI, gJ_sI, gI_sR, gR_sR, gJ_sR, gI_sJ, gR_sJ, gJ_sJ, true_and, and_true, false_and, and_false, if_true, if_false, if_pos, if_neg]
  | d + 1, k, fuel, mm, h1, h2 => by
    obtain ⟨f, rfl⟩ : ∃ f, fuel = f + 1 := ⟨fuel - 1, by omega⟩
    obtain ⟨m', e1, e2, e3, e4⟩ := m_un2 J d (k + 1) f (gsI (gsI (gsI mm 2 k (gI mm 26 k)) 3 k (gI mm 27 k)) 4 k (gI mm 28 k)) (by omega) (by omega)
    refine ⟨m', ?_, e2, e3, fun o c => ?_⟩
    · rw [← e1, lq2_u]
      generalize lq2 (s_X12_undo_142 J) f = F
      unfold s_X12_undo_142
      simp (disch := omega) only [lt1, jn, bd_s, bd2_s, oc_s, oc_n, li0, li1, li2, li3, li4, li5, li6, li7, li8, li9, li10, li11, li12, li13, li14, li16, li20, li21, li22, li24, li30, li31, li33, li38, li39, li40, li41, li45, li48, li50, li51, li57, li58, li59, li60, li61, li62, li64, li70, li71, li72, li99, li100, li101, li104, li107, li109, li116, li120, li121, li124, li127, li128, li144, li255, li300, li360, li372, li396, li600, li999, li1000, li9960, li9990, li1000000, nI_1, nI_add, pk_sub, pk_mul, pk_div, rem_nI, i_lt, i_le, i_eq, okI, ix, isB, nI_clamp, nI_toInt, tneg, gI_sI, gR_sI, gJ_sI, gI_sR, gR_sR, gJ_sR, gI_sJ, gR_sJ, gJ_sJ, true_and, and_true, false_and, and_false, if_true, if_false, if_pos, if_neg]
    · rw [e4]
      by_cases h1 : c = k
      · subst h1
        by_cases h3 : o = 2
        · subst h3; simp (disch := omega) only [gI_sI, gJ_sI, gR_sI, gI_sJ, gJ_sJ, gR_sJ, gI_sR, gJ_sR, gR_sR, gI_cp, gJ_cp, gR_cp, true_and, and_true, if_true, if_false, if_pos, if_neg]
        by_cases h4 : o = 3
        · subst h4; simp (disch := omega) only [gI_sI, gJ_sI, gR_sI, gI_sJ, gJ_sJ, gR_sJ, gI_sR, gJ_sR, gR_sR, gI_cp, gJ_cp, gR_cp, true_and, and_true, if_true, if_false, if_pos, if_neg]
        by_cases h5 : o = 4
        · subst h5; simp (disch := omega) only [gI_sI, gJ_sI, gR_sI, gI_sJ, gJ_sJ, gR_sJ, gI_sR, gJ_sR, gR_sR, gI_cp, gJ_cp, gR_cp, true_and, and_true, if_true, if_false, if_pos, if_neg]
        simp (disch := omega) only [gI_sI, gJ_sI, gR_sI, gI_sJ, gJ_sJ, gR_sJ, gI_sR, gJ_sR, gR_sR, gI_cp, gJ_cp, gR_cp, true_and, and_true, if_true, if_false, if_pos, if_neg]
      · by_cases h2 : k + 1 ≤ c ∧ c < 4
        · by_cases h3 : o = 2
          · subst h3; simp (disch := omega) only [gI_sI, gJ_sI, gR_sI, gI_sJ, gJ_sJ, gR_sJ, gI_sR, gJ_sR, gR_sR, gI_cp, gJ_cp, gR_cp, true_and, and_true, if_true, if_false, if_pos, if_neg]
          by_cases h4 : o = 3
          · subst h4; simp (disch := omega) only [gI_sI, gJ_sI, gR_sI, gI_sJ, gJ_sJ, gR_sJ, gI_sR, gJ_sR, gR_sR, gI_cp, gJ_cp, gR_cp, true_and, and_true, if_true, if_false, if_pos, if_neg]
          by_cases h5 : o = 4
          · subst h5; simp (disch := omega) only [gI_sI, gJ_sI, gR_sI, gI_sJ, gJ_sJ, gR_sJ, gI_sR, gJ_sR, gR_sR, gI_cp, gJ_cp, gR_cp, true_and, and_true, if_true, if_false, if_pos, if_neg]
          simp (disch := omega) only [gI_sI, gJ_sI, gR_sI, gI_sJ, gJ_sJ, gR_sJ, gI_sR, gJ_sR, gR_sR, gI_cp, gJ_cp, gR_cp, true_and, and_true, if_true, if_false, if_pos, if_neg]
        · simp (disch := omega) only [gI_sI, gJ_sI, gR_sI, gI_sJ, gJ_sJ, gR_sJ, gI_sR, gJ_sR, gR_sR, gI_cp, gJ_cp, gR_cp, true_and, and_true, if_true, if_false, if_pos, if_neg]
theorem m_un3 (J : gMem → Option (Int32 × gMem)) : ∀ (d k fuel : Nat) (mm : gMem), d + k = 16 → d < fuel → ∃ m', lq2 (s_X12_undo_191 J) fuel (nI k) mm = J m' ∧ (∀ o c, gJ m' o c = gJ mm o c) ∧ (∀ o c, gR m' o c = gR mm o c) ∧ ∀ o c, gI m' o c = if k ≤ c ∧ c < 16 then (if o = 5 then gI mm 29 c else gI mm o c) else gI mm o c
  | 0, k, fuel, mm, h1, h2 => by
    obtain ⟨f, rfl⟩ : ∃ f, fuel = f + 1 := ⟨fuel - 1, by omega⟩
    refine ⟨mm, ?_, fun _ _ => rfl, fun _ _ => rfl, fun o c => by rw [if_neg (by omega)]⟩
    rw [lq2_u]
    unfold s_X12_undo_191
    simp (disch := omega) only [lt1, jn, bd_s, bd2_s, oc_s, oc_n, li0, li1, li2, li3, li4, li5, li6, li7, li8, li9, li10, li11, li12, li13, li14, li16, li20, li21, li22, li24, li30, li31, li33, li38, li39, li40, li41, li45, li48, li50, li51, li57, li58, li59, li60, li61, li62, li64, li70, li71, li72, li99, li100, li101, li104, li107, li109, li116, li120, li121, li124, li127, li128, li144, li255, li300, li360, li372, li396, li600, li999, li1000, li9960, li9990, li1000000, nI_1, nI_add, pk_sub, pk_mul, pk_div, rem_nI, i_lt, i_le, i_eq, okI, ix, isB, nI_clamp, nI_toInt, tneg, gI_sI, gR_sI, gJ_sI, gI_sR, gR_sR, gJ_sR, gI_sJ, gR_sJ, gJ_sJ, true_and, and_true, false_and, and_false, if_true, if_false, if_pos, if_neg]
  | d + 1, k, fuel, mm, h1, h2 => by
    obtain ⟨f, rfl⟩ : ∃ f, fuel = f + 1 := ⟨fuel - 1, by omega⟩
    obtain ⟨m', e1, e2, e3, e4⟩ := m_un3 J d (k + 1) f (gsI mm 5 k (gI mm 29 k)) (by omega) (by omega)
    refine ⟨m', ?_, e2, e3, fun o c => ?_⟩
    · rw [← e1, lq2_u]
      generalize lq2 (s_X12_undo_191 J) f = F
      unfold s_X12_undo_191
      simp (disch := omega) only [lt1, jn, bd_s, bd2_s, oc_s, oc_n, li0, li1, li2, li3, li4, li5, li6, li7, li8, li9, li10, li11, li12, li13, li14, li16, li20, li21, li22, li24, li30, li31, li33, li38, li39, li40, li41, li45, li48, li50, li51, li57, li58, li59, li60, li61, li62, li64, li70, li71, li72, li99, li100, li101, li104, li107, li109, li116, li120, li121, li124, li127, li128, li144, li255, li300, li360, li372, li396, li600, li999, li1000, li9960, li9990, li1000000, nI_1, nI_add, pk_sub, pk_mul, pk_div, rem_nI, i_lt, i_le, i_eq, okI, ix, isB, nI_clamp, nI_toInt, tneg, gI_sI, gR_sI, gJ_sI, gI_sR, gR_sR, gJ_sR, gI_sJ, gR_sJ, gJ_sJ, true_and, and_true, false_and, and_false, if_true, if_false, if_pos, if_neg]
    · rw [e4]
      by_cases h1 : c = k
      · subst h1
        by_cases h3 : o = 5
        · subst h3; simp (disch := omega) only [gI_sI, gJ_sI, gR_sI, gI_sJ, gJ_sJ, gR_sJ, gI_sR, gJ_sR, gR_sR, gI_cp, gJ_cp, gR_cp, true_and, and_true, if_true, if_false, if_pos, if_neg]
        simp (disch := omega) only [gI_sI, gJ_sI, gR_sI, gI_sJ, gJ_sJ, gR_sJ, gI_sR, gJ_sR, gR_sR, gI_cp, gJ_cp, gR_cp, true_and, and_true, if_true, if_false, if_pos, if_neg]
      · by_cases h2 : k + 1 ≤ c ∧ c < 16
        · by_cases h3 : o = 5
          · subst h3; simp (disch := omega) only [gI_sI, gJ_sI, gR_sI, gI_sJ, gJ_sJ, gR_sJ, gI_sR, gJ_sR, gR_sR, gI_cp, gJ_cp, gR_cp, true_and, and_true, if_true, if_false, if_pos, if_neg]
          simp (disch := omega) only [gI_sI, gJ_sI, gR_sI, gI_sJ, gJ_sJ, gR_sJ, gI_sR, gJ_sR, gR_sR, gI_cp, gJ_cp, gR_cp, true_and, and_true, if_true, if_false, if_pos, if_neg]
        · simp (disch := omega) only [gI_sI, gJ_sI, gR_sI, gI_sJ, gJ_sJ, gR_sJ, gI_sR, gJ_sR, gR_sR, gI_cp, gJ_cp, gR_cp, true_and, and_true, if_true, if_false, if_pos, if_neg]
theorem m_un4 : ∀ (d k fuel : Nat) (mm : gMem), d + k = 6 → d < fuel → ∃ m', lq2 (s_X12_undo_217) fuel (nI k) mm = some (gI m' 0 0, m') ∧ (∀ o c, gJ m' o c = gJ mm o c) ∧ (∀ o c, gR m' o c = gR mm o c) ∧ ∀ o c, gI m' o c = if k ≤ c ∧ c < 6 then (if o = 21 then gI mm 31 c else if o = 22 then gI mm 32 c else if o = 23 then vp_nar .boolean (gI mm 34 c) else gI mm o c) else gI mm o c
  | 0, k, fuel, mm, h1, h2 => by
    obtain ⟨f, rfl⟩ : ∃ f, fuel = f + 1 := ⟨fuel - 1, by omega⟩
    refine ⟨mm, ?_, fun _ _ => rfl, fun _ _ => rfl, fun o c => by rw [if_neg (by omega)]⟩
    rw [lq2_u]
    unfold s_X12_undo_217
    simp (disch := omega) only [lt1, jn, bd_s, bd2_s, oc_s, oc_n, li0, li1, li2, li3, li4, li5, li6, li7, li8, li9, li10, li11, li12, li13, li14, li16, li20, li21, li22, li24, li30, li31, li33, li38, li39, li40, li41, li45, li48, li50, li51, li57, li58, li59, li60, li61, li62, li64, li70, li71, li72, li99, li100, li101, li104, li107, li109, li116, li120, li121, li124, li127, li128, li144, li255, li300, li360, li372, li396, li600, li999, li1000, li9960, li9990, li1000000, nI_1, nI_add, pk_sub, pk_mul, pk_div, rem_nI, i_lt, i_le, i_eq, okI, ix, isB, nI_clamp, nI_toInt, tneg, gI_sI, gR_sI, gJ_sI, gI_sR, gR_sR, gJ_sR, gI_sJ, gR_sJ, gJ_sJ, true_and, and_true, false_and, and_false, if_true, if_false, if_pos, if_neg]
  | d + 1, k, fuel, mm, h1, h2 => by
    obtain ⟨f, rfl⟩ : ∃ f, fuel = f + 1 := ⟨fuel - 1, by omega⟩
    obtain ⟨m', e1, e2, e3, e4⟩ := m_un4 d (k + 1) f (gsI (gsI (gsI mm 21 k (gI mm 31 k)) 22 k (gI mm 32 k)) 23 k (vp_nar .boolean (gI mm 34 k))) (by omega) (by omega)
    refine ⟨m', ?_, e2, e3, fun o c => ?_⟩
    · rw [← e1, lq2_u]
      generalize lq2 (s_X12_undo_217) f = F
      unfold s_X12_undo_217
      simp (disch := omega) only [lt1, jn, bd_s, bd2_s, oc_s, oc_n, li0, li1, li2, li3, li4, li5, li6, li7, li8, li9, li10, li11, li12, li13, li14, li16, li20, li21, li22, li24, li30, li31, li33, li38, li39, li40, li41, li45, li48, li50, li51, li57, li58, li59, li60, li61, li62, li64, li70, li71, li72, li99, li100, li101, li104, li107, li109, li116, li120, li121, li124, li127, li128, li144, li255, li300, li360, li372, li396, li600, li999, li1000, li9960, li9990, li1000000, nI_1, nI_add, pk_sub, pk_mul, pk_div, rem_nI, i_lt, i_le, i_eq, okI, ix, isB, nI_clamp, nI_toInt, tneg, gI_sI, gR_sI, gJ_sI, gI_sR, gR_sR, gJ_sR, gI_sJ, gR_sJ, gJ_sJ, true_and, and_true, false_and, and_false, if_true, if_false, if_pos, if_neg]
    · rw [e4]
      by_cases h1 : c = k
      · subst h1
        by_cases h3 : o = 21
        · subst h3; simp (disch := omega) only [gI_sI, gJ_sI, gR_sI, gI_sJ, gJ_sJ, gR_sJ, gI_sR, gJ_sR, gR_sR, gI_cp, gJ_cp, gR_cp, true_and, and_true, if_true, if_false, if_pos, if_neg]
        by_cases h4 : o = 22
        · subst h4; simp (disch := omega) only [gI_sI, gJ_sI, gR_sI, gI_sJ, gJ_sJ, gR_sJ, gI_sR, gJ_sR, gR_sR, gI_cp, gJ_cp, gR_cp, true_and, and_true, if_true, if_false, if_pos, if_neg]
        by_cases h5 : o = 23
        · subst h5; simp (disch := omega) only [gI_sI, gJ_sI, gR_sI, gI_sJ, gJ_sJ, gR_sJ, gI_sR, gJ_sR, gR_sR, gI_cp, gJ_cp, gR_cp, true_and, and_true, if_true, if_false, if_pos, if_neg]
        simp (disch := omega) only [gI_sI, gJ_sI, gR_sI, gI_sJ, gJ_sJ, gR_sJ, gI_sR, gJ_sR, gR_sR, gI_cp, gJ_cp, gR_cp, true_and, and_true, if_true, if_false, if_pos, if_neg]
      · by_cases h2 : k + 1 ≤ c ∧ c < 6
        · by_cases h3 : o = 21
          · subst h3; simp (disch := omega) only [gI_sI, gJ_sI, gR_sI, gI_sJ, gJ_sJ, gR_sJ, gI_sR, gJ_sR, gR_sR, gI_cp, gJ_cp, gR_cp, true_and, and_true, if_true, if_false, if_pos, if_neg]
          by_cases h4 : o = 22
          · subst h4; simp (disch := omega) only [gI_sI, gJ_sI, gR_sI, gI_sJ, gJ_sJ, gR_sJ, gI_sR, gJ_sR, gR_sR, gI_cp, gJ_cp, gR_cp, true_and, and_true, if_true, if_false, if_pos, if_neg]
          by_cases h5 : o = 23
          · subst h5; simp (disch := omega) only [gI_sI, gJ_sI, gR_sI, gI_sJ, gJ_sJ, gR_sJ, gI_sR, gJ_sR, gR_sR, gI_cp, gJ_cp, gR_cp, true_and, and_true, if_true, if_false, if_pos, if_neg]
          simp (disch := omega) only [gI_sI, gJ_sI, gR_sI, gI_sJ, gJ_sJ, gR_sJ, gI_sR, gJ_sR, gR_sR, gI_cp, gJ_cp, gR_cp, true_and, and_true, if_true, if_false, if_pos, if_neg]
        · simp (disch := omega) only [gI_sI, gJ_sI, gR_sI, gI_sJ, gJ_sJ, gR_sJ, gI_sR, gJ_sR, gR_sR, gI_cp, gJ_cp, gR_cp, true_and, and_true, if_true, if_false, if_pos, if_neg]
theorem nrB {v : Int32} (h : isB v) : vp_nar .boolean v = v := by
  rcases h with rfl | rfl <;> decide
theorem rgB {v : Int32} (h : rg v 1) : isB v := by
  obtain ⟨n, hn, rfl⟩ := h
  rcases (show n = 0 ∨ n = 1 by omega) with rfl | rfl
  · exact Or.inl rfl
  · exact Or.inr rfl
theorem m_im1' (J : gMem → Option (Int32 × gMem)) (mm : gMem) : ∃ m', lq2 (s_X12_image_87 J) 1000 (0 : Int32) mm = J m' ∧ (∀ o c, gJ m' o c = gJ mm o c) ∧ (∀ o c, gR m' o c = gR mm o c) ∧ (∀ o c, ¬ (o = 25 ∨ o = 30 ∨ o = 33) → gI m' o c = gI mm o c) ∧ (∀ c, c < 12 → gI m' 25 c = gI mm 1 c) ∧ (∀ c, c < 12 → gI m' 30 c = gI mm 16 c) ∧ (∀ c, c < 12 → gI m' 33 c = gI mm 24 c) := by
  obtain ⟨m', e1, e2, e3, e4⟩ := m_im1 J 12 0 1000 mm rfl (by decide)
  refine ⟨m', e1, e2, e3, fun o c q => ?_, fun c hc => ?_, fun c hc => ?_, fun c hc => ?_⟩
  · rw [e4]
    by_cases hc : 0 ≤ c ∧ c < 12 <;> simp (disch := omega) only [gI_n, gI_y, gJ_n, gJ_y, gR_n, gR_y, gI_cn, gI_cy, gJ_sI, gR_sI, gI_sJ, gR_sJ, gI_sR, gJ_sR, gJ_cp, gR_cp, true_and, and_true, if_true, if_false, if_pos, if_neg]
  · rw [e4]; simp (disch := omega) only [gI_n, gI_y, gJ_n, gJ_y, gR_n, gR_y, gI_cn, gI_cy, gJ_sI, gR_sI, gI_sJ, gR_sJ, gI_sR, gJ_sR, gJ_cp, gR_cp, true_and, and_true, if_true, if_false, if_pos, if_neg]
  · rw [e4]; simp (disch := omega) only [gI_n, gI_y, gJ_n, gJ_y, gR_n, gR_y, gI_cn, gI_cy, gJ_sI, gR_sI, gI_sJ, gR_sJ, gI_sR, gJ_sR, gJ_cp, gR_cp, true_and, and_true, if_true, if_false, if_pos, if_neg]
  · rw [e4]; simp (disch := omega) only [gI_n, gI_y, gJ_n, gJ_y, gR_n, gR_y, gI_cn, gI_cy, gJ_sI, gR_sI, gI_sJ, gR_sJ, gI_sR, gJ_sR, gJ_cp, gR_cp, true_and, and_true, if_true, if_false, if_pos, if_neg]
theorem m_im2' (J : gMem → Option (Int32 × gMem)) (mm : gMem) : ∃ m', lq2 (s_X12_image_137 J) 1000 (0 : Int32) mm = J m' ∧ (∀ o c, gJ m' o c = gJ mm o c) ∧ (∀ o c, gR m' o c = gR mm o c) ∧ (∀ o c, ¬ (o = 26 ∨ o = 27 ∨ o = 28) → gI m' o c = gI mm o c) ∧ (∀ c, c < 4 → gI m' 26 c = gI mm 2 c) ∧ (∀ c, c < 4 → gI m' 27 c = gI mm 3 c) ∧ (∀ c, c < 4 → gI m' 28 c = gI mm 4 c) := by
  obtain ⟨m', e1, e2, e3, e4⟩ := m_im2 J 4 0 1000 mm rfl (by decide)
  refine ⟨m', e1, e2, e3, fun o c q => ?_, fun c hc => ?_, fun c hc => ?_, fun c hc => ?_⟩
  · rw [e4]
    by_cases hc : 0 ≤ c ∧ c < 4 <;> simp (disch := omega) only [gI_n, gI_y, gJ_n, gJ_y, gR_n, gR_y, gI_cn, gI_cy, gJ_sI, gR_sI, gI_sJ, gR_sJ, gI_sR, gJ_sR, gJ_cp, gR_cp, true_and, and_true, if_true, if_false, if_pos, if_neg]
  · rw [e4]; simp (disch := omega) only [gI_n, gI_y, gJ_n, gJ_y, gR_n, gR_y, gI_cn, gI_cy, gJ_sI, gR_sI, gI_sJ, gR_sJ, gI_sR, gJ_sR, gJ_cp, gR_cp, true_and, and_true, if_true, if_false, if_pos, if_neg]
  · rw [e4]; simp (disch := omega) only [gI_n, gI_y, gJ_n, gJ_y, gR_n, gR_y, gI_cn, gI_cy, gJ_sI, gR_sI, gI_sJ, gR_sJ, gI_sR, gJ_sR, gJ_cp, gR_cp, true_and, and_true, if_true, if_false, if_pos, if_neg]
  · rw [e4]; simp (disch := omega) only [gI_n, gI_y, gJ_n, gJ_y, gR_n, gR_y, gI_cn, gI_cy, gJ_sI, gR_sI, gI_sJ, gR_sJ, gI_sR, gJ_sR, gJ_cp, gR_cp, true_and, and_true, if_true, if_false, if_pos, if_neg]
theorem m_im3' (J : gMem → Option (Int32 × gMem)) (mm : gMem) : ∃ m', lq2 (s_X12_image_186 J) 1000 (0 : Int32) mm = J m' ∧ (∀ o c, gJ m' o c = gJ mm o c) ∧ (∀ o c, gR m' o c = gR mm o c) ∧ (∀ o c, ¬ (o = 29) → gI m' o c = gI mm o c) ∧ (∀ c, c < 16 → gI m' 29 c = gI mm 5 c) := by
  obtain ⟨m', e1, e2, e3, e4⟩ := m_im3 J 16 0 1000 mm rfl (by decide)
  refine ⟨m', e1, e2, e3, fun o c q => ?_, fun c hc => ?_⟩
  · rw [e4]
    by_cases hc : 0 ≤ c ∧ c < 16 <;> simp (disch := omega) only [gI_n, gI_y, gJ_n, gJ_y, gR_n, gR_y, gI_cn, gI_cy, gJ_sI, gR_sI, gI_sJ, gR_sJ, gI_sR, gJ_sR, gJ_cp, gR_cp, true_and, and_true, if_true, if_false, if_pos, if_neg]
  · rw [e4]; simp (disch := omega) only [gI_n, gI_y, gJ_n, gJ_y, gR_n, gR_y, gI_cn, gI_cy, gJ_sI, gR_sI, gI_sJ, gR_sJ, gI_sR, gJ_sR, gJ_cp, gR_cp, true_and, and_true, if_true, if_false, if_pos, if_neg]
theorem m_im4' (mm : gMem) (hb : ∀ c, c < 6 → isB (gI mm 23 c)) : ∃ m', lq2 (s_X12_image_212) 1000 (0 : Int32) mm = some (gI m' 0 0, m') ∧ (∀ o c, gJ m' o c = gJ mm o c) ∧ (∀ o c, gR m' o c = gR mm o c) ∧ (∀ o c, ¬ (o = 31 ∨ o = 32 ∨ o = 34) → gI m' o c = gI mm o c) ∧ (∀ c, c < 6 → gI m' 31 c = gI mm 21 c) ∧ (∀ c, c < 6 → gI m' 32 c = gI mm 22 c) ∧ (∀ c, c < 6 → gI m' 34 c = gI mm 23 c) := by
  obtain ⟨m', e1, e2, e3, e4⟩ := m_im4 6 0 1000 mm rfl (by decide)
  refine ⟨m', e1, e2, e3, fun o c q => ?_, fun c hc => ?_, fun c hc => ?_, fun c hc => ?_⟩
  · rw [e4]
    by_cases hc : 0 ≤ c ∧ c < 6 <;> simp (disch := omega) only [gI_n, gI_y, gJ_n, gJ_y, gR_n, gR_y, gI_cn, gI_cy, gJ_sI, gR_sI, gI_sJ, gR_sJ, gI_sR, gJ_sR, gJ_cp, gR_cp, true_and, and_true, if_true, if_false, if_pos, if_neg]
  · rw [e4]; simp (disch := omega) only [gI_n, gI_y, gJ_n, gJ_y, gR_n, gR_y, gI_cn, gI_cy, gJ_sI, gR_sI, gI_sJ, gR_sJ, gI_sR, gJ_sR, gJ_cp, gR_cp, true_and, and_true, if_true, if_false, if_pos, if_neg]
  · rw [e4]; simp (disch := omega) only [gI_n, gI_y, gJ_n, gJ_y, gR_n, gR_y, gI_cn, gI_cy, gJ_sI, gR_sI, gI_sJ, gR_sJ, gI_sR, gJ_sR, gJ_cp, gR_cp, true_and, and_true, if_true, if_false, if_pos, if_neg]
  · rw [e4]; simp (disch := omega) only [gI_n, gI_y, gJ_n, gJ_y, gR_n, gR_y, gI_cn, gI_cy, gJ_sI, gR_sI, gI_sJ, gR_sJ, gI_sR, gJ_sR, gJ_cp, gR_cp, true_and, and_true, if_true, if_false, if_pos, if_neg]
    exact nrB (hb c hc)
theorem m_un1' (J : gMem → Option (Int32 × gMem)) (mm : gMem) : ∃ m', lq2 (s_X12_undo_92 J) 1000 (0 : Int32) mm = J m' ∧ (∀ o c, gJ m' o c = gJ mm o c) ∧ (∀ o c, gR m' o c = gR mm o c) ∧ (∀ o c, ¬ (o = 1 ∨ o = 16 ∨ o = 24) → gI m' o c = gI mm o c) ∧ (∀ c, c < 12 → gI m' 1 c = gI mm 25 c) ∧ (∀ c, c < 12 → gI m' 16 c = gI mm 30 c) ∧ (∀ c, c < 12 → gI m' 24 c = gI mm 33 c) := by
  obtain ⟨m', e1, e2, e3, e4⟩ := m_un1 J 12 0 1000 mm rfl (by decide)
  refine ⟨m', e1, e2, e3, fun o c q => ?_, fun c hc => ?_, fun c hc => ?_, fun c hc => ?_⟩
  · rw [e4]
    by_cases hc : 0 ≤ c ∧ c < 12 <;> simp (disch := omega) only [gI_n, gI_y, gJ_n, gJ_y, gR_n, gR_y, gI_cn, gI_cy, gJ_sI, gR_sI, gI_sJ, gR_sJ, gI_sR, gJ_sR, gJ_cp, gR_cp, true_and, and_true, if_true, if_false, if_pos, if_neg]
  · rw [e4]; simp (disch := omega) only [gI_n, gI_y, gJ_n, gJ_y, gR_n, gR_y, gI_cn, gI_cy, gJ_sI, gR_sI, gI_sJ, gR_sJ, gI_sR, gJ_sR, gJ_cp, gR_cp, true_and, and_true, if_true, if_false, if_pos, if_neg]
  · rw [e4]; simp (disch := omega) only [gI_n, gI_y, gJ_n, gJ_y, gR_n, gR_y, gI_cn, gI_cy, gJ_sI, gR_sI, gI_sJ, gR_sJ, gI_sR, gJ_sR, gJ_cp, gR_cp, true_and, and_true, if_true, if_false, if_pos, if_neg]
  · rw [e4]; simp (disch := omega) only [gI_n, gI_y, gJ_n, gJ_y, gR_n, gR_y, gI_cn, gI_cy, gJ_sI, gR_sI, gI_sJ, gR_sJ, gI_sR, gJ_sR, gJ_cp, gR_cp, true_and, and_true, if_true, if_false, if_pos, if_neg]
theorem m_un2' (J : gMem → Option (Int32 × gMem)) (mm : gMem) : ∃ m', lq2 (s_X12_undo_142 J) 1000 (0 : Int32) mm = J m' ∧ (∀ o c, gJ m' o c = gJ mm o c) ∧ (∀ o c, gR m' o c = gR mm o c) ∧ (∀ o c, ¬ (o = 2 ∨ o = 3 ∨ o = 4) → gI m' o c = gI mm o c) ∧ (∀ c, c < 4 → gI m' 2 c = gI mm 26 c) ∧ (∀ c, c < 4 → gI m' 3 c = gI mm 27 c) ∧ (∀ c, c < 4 → gI m' 4 c = gI mm 28 c) := by
  obtain ⟨m', e1, e2, e3, e4⟩ := m_un2 J 4 0 1000 mm rfl (by decide)
  refine ⟨m', e1, e2, e3, fun o c q => ?_, fun c hc => ?_, fun c hc => ?_, fun c hc => ?_⟩
  · rw [e4]
    by_cases hc : 0 ≤ c ∧ c < 4 <;> simp (disch := omega) only [gI_n, gI_y, gJ_n, gJ_y, gR_n, gR_y, gI_cn, gI_cy, gJ_sI, gR_sI, gI_sJ, gR_sJ, gI_sR, gJ_sR, gJ_cp, gR_cp, true_and, and_true, if_true, if_false, if_pos, if_neg]
  · rw [e4]; simp (disch := omega) only [gI_n, gI_y, gJ_n, gJ_y, gR_n, gR_y, gI_cn, gI_cy, gJ_sI, gR_sI, gI_sJ, gR_sJ, gI_sR, gJ_sR, gJ_cp, gR_cp, true_and, and_true, if_true, if_false, if_pos, if_neg]
  · rw [e4]; simp (disch := omega) only [gI_n, gI_y, gJ_n, gJ_y, gR_n, gR_y, gI_cn, gI_cy, gJ_sI, gR_sI, gI_sJ, gR_sJ, gI_sR, gJ_sR, gJ_cp, gR_cp, true_and, and_true, if_true, if_false, if_pos, if_neg]
  · rw [e4]; simp (disch := omega) only [gI_n, gI_y, gJ_n, gJ_y, gR_n, gR_y, gI_cn, gI_cy, gJ_sI, gR_sI, gI_sJ, gR_sJ, gI_sR, gJ_sR, gJ_cp, gR_cp, true_and, and_true, if_true, if_false, if_pos, if_neg]
theorem m_un3' (J : gMem → Option (Int32 × gMem)) (mm : gMem) : ∃ m', lq2 (s_X12_undo_191 J) 1000 (0 : Int32) mm = J m' ∧ (∀ o c, gJ m' o c = gJ mm o c) ∧ (∀ o c, gR m' o c = gR mm o c) ∧ (∀ o c, ¬ (o = 5) → gI m' o c = gI mm o c) ∧ (∀ c, c < 16 → gI m' 5 c = gI mm 29 c) := by
  obtain ⟨m', e1, e2, e3, e4⟩ := m_un3 J 16 0 1000 mm rfl (by decide)
  refine ⟨m', e1, e2, e3, fun o c q => ?_, fun c hc => ?_⟩
  · rw [e4]
    by_cases hc : 0 ≤ c ∧ c < 16 <;> simp (disch := omega) only [gI_n, gI_y, gJ_n, gJ_y, gR_n, gR_y, gI_cn, gI_cy, gJ_sI, gR_sI, gI_sJ, gR_sJ, gI_sR, gJ_sR, gJ_cp, gR_cp, true_and, and_true, if_true, if_false, if_pos, if_neg]
  · rw [e4]; simp (disch := omega) only [gI_n, gI_y, gJ_n, gJ_y, gR_n, gR_y, gI_cn, gI_cy, gJ_sI, gR_sI, gI_sJ, gR_sJ, gI_sR, gJ_sR, gJ_cp, gR_cp, true_and, and_true, if_true, if_false, if_pos, if_neg]
theorem m_un4' (mm : gMem) (hb : ∀ c, c < 6 → isB (gI mm 34 c)) : ∃ m', lq2 (s_X12_undo_217) 1000 (0 : Int32) mm = some (gI m' 0 0, m') ∧ (∀ o c, gJ m' o c = gJ mm o c) ∧ (∀ o c, gR m' o c = gR mm o c) ∧ (∀ o c, ¬ (o = 21 ∨ o = 22 ∨ o = 23) → gI m' o c = gI mm o c) ∧ (∀ c, c < 6 → gI m' 21 c = gI mm 31 c) ∧ (∀ c, c < 6 → gI m' 22 c = gI mm 32 c) ∧ (∀ c, c < 6 → gI m' 23 c = gI mm 34 c) := by
  obtain ⟨m', e1, e2, e3, e4⟩ := m_un4 6 0 1000 mm rfl (by decide)
  refine ⟨m', e1, e2, e3, fun o c q => ?_, fun c hc => ?_, fun c hc => ?_, fun c hc => ?_⟩
  · rw [e4]
    by_cases hc : 0 ≤ c ∧ c < 6 <;> simp (disch := omega) only [gI_n, gI_y, gJ_n, gJ_y, gR_n, gR_y, gI_cn, gI_cy, gJ_sI, gR_sI, gI_sJ, gR_sJ, gI_sR, gJ_sR, gJ_cp, gR_cp, true_and, and_true, if_true, if_false, if_pos, if_neg]
  · rw [e4]; simp (disch := omega) only [gI_n, gI_y, gJ_n, gJ_y, gR_n, gR_y, gI_cn, gI_cy, gJ_sI, gR_sI, gI_sJ, gR_sJ, gI_sR, gJ_sR, gJ_cp, gR_cp, true_and, and_true, if_true, if_false, if_pos, if_neg]
  · rw [e4]; simp (disch := omega) only [gI_n, gI_y, gJ_n, gJ_y, gR_n, gR_y, gI_cn, gI_cy, gJ_sI, gR_sI, gI_sJ, gR_sJ, gI_sR, gJ_sR, gJ_cp, gR_cp, true_and, and_true, if_true, if_false, if_pos, if_neg]
  · rw [e4]; simp (disch := omega) only [gI_n, gI_y, gJ_n, gJ_y, gR_n, gR_y, gI_cn, gI_cy, gJ_sI, gR_sI, gI_sJ, gR_sJ, gI_sR, gJ_sR, gJ_cp, gR_cp, true_and, and_true, if_true, if_false, if_pos, if_neg]
    exact nrB (hb c hc)
end O7
