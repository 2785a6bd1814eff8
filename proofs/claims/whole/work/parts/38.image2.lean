/-! image, undo: the calls -/
theorem gI_n {m : gMem} {o k : Nat} {v : Int32} {o' k' : Nat} (h : ¬ (o' = o ∧ k' = k)) : gI (gsI m o k v) o' k' = gI m o' k' := by rw [gI_sI, if_neg h]
theorem gI_y {m : gMem} {o k : Nat} {v : Int32} {o' k' : Nat} (h : o' = o ∧ k' = k) : gI (gsI m o k v) o' k' = v := by rw [gI_sI, if_pos h]
theorem gJ_n {m : gMem} {o k : Nat} {v : Int64} {o' k' : Nat} (h : ¬ (o' = o ∧ k' = k)) : gJ (gsJ m o k v) o' k' = gJ m o' k' := by rw [gJ_sJ, if_neg h]
theorem gJ_y {m : gMem} {o k : Nat} {v : Int64} {o' k' : Nat} (h : o' = o ∧ k' = k) : gJ (gsJ m o k v) o' k' = v := by rw [gJ_sJ, if_pos h]
theorem gR_n {m : gMem} {o k : Nat} {v : Option Nat} {o' k' : Nat} (h : ¬ (o' = o ∧ k' = k)) : gR (gsR m o k v) o' k' = gR m o' k' := by rw [gR_sR, if_neg h]
theorem gR_y {m : gMem} {o k : Nat} {v : Option Nat} {o' k' : Nat} (h : o' = o ∧ k' = k) : gR (gsR m o k v) o' k' = v := by rw [gR_sR, if_pos h]
theorem gI_cn {m : gMem} {a b n o k : Nat} (h : ¬ (o = b ∧ k < n)) : gI (gcp m a b n) o k = gI m o k := by rw [gI_cp, if_neg h]
theorem gI_cy {m : gMem} {a b n o k : Nat} (h : o = b ∧ k < n) : gI (gcp m a b n) o k = gI m a k := by rw [gI_cp, if_pos h]
section O7
variable {L : List Nat} {W : Nat → Nat} {N : Nat → List cls} {x m x' m' : gMem}
theorem m_un1 (J : gMem → Option (Int32 × gMem)) : ∀ (d k fuel : Nat) (mm : gMem), d + k = 12 → d < fuel → ∃ m', lq2 (s_X12_undo_92 J) fuel (nI k) mm = J m' ∧ (∀ o c, gJ m' o c = gJ mm o c) ∧ (∀ o c, gR m' o c = gR mm o c) ∧ ∀ o c, gI m' o c = if k ≤ c ∧ c < 12 then (if o = 1 then gI mm 25 c else if o = 16 then gI mm 30 c else if o = 24 then gI mm 33 c else gI mm o c) else gI mm o c
  | 0, k, fuel, mm, h1, h2 => by
    obtain ⟨f, rfl⟩ : ∃ f, fuel = f + 1 := ⟨fuel - 1, by omega⟩
    refine ⟨mm, ?_, fun _ _ => rfl, fun _ _ => rfl, fun o c => by rw [if_neg (by omega)]⟩
    rw [lq2_u]
    unfold s_X12_undo_92
    simp (disch := omega) only [lt1, jn, bd_s, bd2_s, oc_s, oc_n, li0, li1, li2, li3, li4, li5, li6, li7, li8, li9, li10, li11, li12, li13, li14, li16, li20, li21, li22, li24, li30, li31, li33, li38, li39, li40, li41, li45, li48, li50, li51, li57, li58, li59, li60, li61, li62, li64, li70, li71, li72, li99, li100, li101, li104, li107, li109, li116, li120, li121, li124, li127, li128, li144, li255, li300, li360, li372, li396, li600, li999, li1000, li9960, li9990, li1000000, nI_1, nI_add, pk_sub, pk_mul, pk_div, rem_nI, i_lt, i_le, i_eq, okI, ix, isB, nI_clamp, nI_toInt, tneg, gI_sI, gR_sI, gJ_sI, gI_sR, gR_sR, gJ_sR, gI_sJ, gR_sJ, gJ_sJ, true_and, and_true, false_and, and_false, if_true, if_false, if_pos, if_neg]
  | d + 1, k, fuel, mm, h1, h2 => by
    obtain ⟨f, rfl⟩ : ∃ f, fuel = f + 1 := ⟨fuel - 1, by omega⟩
    obtain ⟨m', e1, e2, e3, e4⟩ := m_un1 J d (k + 1) f (gsI (gsI (gsI mm 1 k (gI mm 25 k)) 16 k (gI mm 30 k)) 24 k (gI mm 33 k)) (by omega) (by omega)
    refine ⟨m', ?_, e2, e3, fun o c => ?_⟩
    · rw [← e1, lq2_u]
      generalize lq2 (s_X12_undo_92 J) f = F
      unfold s_X12_undo_92
      simp (disch := omega) only [lt1, jn, bd_s, bd2_s, oc_s, oc_n, li0, li1, li2, li3, li4, li5, li6, li7, li8, li9, li10, li11, li12, li13, li14, li16, li20, li21, li22, li24, li30, li31, li33, li38, li39, li40, li41, li45, li48, li50, li51, li57, li58, li59, li60, li61, li62, li64, li70, li71, li72, li99, li100, li101, li104, li107, li109, li116, li120, li121, li124, li127, li128, li144, li255, li300, li360, li372, li396, li600, li999, li1000, li9960, li9990, li1000000, nI_1, nI_add, pk_sub, pk_mul, pk_div, rem_nI, i_lt, i_le, i_eq, okI, ix, isB, nI_clamp, nI_toInt, tneg, gI_sI, gR_sI, gJ_sI, gI_sR, gR_sR, gJ_sR, gI_sJ, gR_sJ, gJ_sJ, true_and, and_true, false_and, and_false, if_true, if_false, if_pos, if_neg]
    · rw [e4]
      by_cases h1 : c = k
      · subst h1
        by_cases h3 : o = 1
        · subst h3; simp (disch := omega) only [gI_sI, gJ_sI, gR_sI, gI_sJ, gJ_sJ, gR_sJ, gI_sR, gJ_sR, gR_sR, gI_cp, gJ_cp, gR_cp, true_and, and_true, if_true, if_false, if_pos, if_neg]
        by_cases h4 : o = 16
        · subst h4; simp (disch := omega) only [gI_sI, gJ_sI, gR_sI, gI_sJ, gJ_sJ, gR_sJ, gI_sR, gJ_sR, gR_sR, gI_cp, gJ_cp, gR_cp, true_and, and_true, if_true, if_false, if_pos, if_neg]
        by_cases h5 : o = 24
        · subst h5; simp (disch := omega) only [gI_sI, gJ_sI, gR_sI, gI_sJ, gJ_sJ, gR_sJ, gI_sR, gJ_sR, gR_sR, gI_cp, gJ_cp, gR_cp, true_and, and_true, if_true, if_false, if_pos, if_neg]
        simp (disch := omega) only [gI_sI, gJ_sI, gR_sI, gI_sJ, gJ_sJ, gR_sJ, gI_sR, gJ_sR, gR_sR, gI_cp, gJ_cp, gR_cp, true_and, and_true, if_true, if_false, if_pos, if_neg]
      · by_cases h2 : k + 1 ≤ c ∧ c < 12
        · by_cases h3 : o = 1
          · subst h3; simp (disch := omega) only [gI_sI, gJ_sI, gR_sI, gI_sJ, gJ_sJ, gR_sJ, gI_sR, gJ_sR, gR_sR, gI_cp, gJ_cp, gR_cp, true_and, and_true, if_true, if_false, if_pos, if_neg]
          by_cases h4 : o = 16
          · subst h4; simp (disch := omega) only [gI_sI, gJ_sI, gR_sI, gI_sJ, gJ_sJ, gR_sJ, gI_sR, gJ_sR, gR_sR, gI_cp, gJ_cp, gR_cp, true_and, and_true, if_true, if_false, if_pos, if_neg]
          by_cases h5 : o = 24
          · subst h5; simp (disch := omega) only [gI_sI, gJ_sI, gR_sI, gI_sJ, gJ_sJ, gR_sJ, gI_sR, gJ_sR, gR_sR, gI_cp, gJ_cp, gR_cp, true_and, and_true, if_true, if_false, if_pos, if_neg]
          simp (disch := omega) only [gI_sI, gJ_sI, gR_sI, gI_sJ, gJ_sJ, gR_sJ, gI_sR, gJ_sR, gR_sR, gI_cp, gJ_cp, gR_cp, true_and, and_true, if_true, if_false, if_pos, if_neg]
        · simp (disch := omega) only [gI_sI, gJ_sI, gR_sI, gI_sJ, gJ_sJ, gR_sJ, gI_sR, gJ_sR, gR_sR, gI_cp, gJ_cp, gR_cp, true_and, and_true, if_true, if_false, if_pos, if_neg]
theorem m_un2 (J : gMem → Option (Int32 × gMem)) : ∀ (d k fuel : Nat) (mm : gMem), d + k = 4 → d < fuel → ∃ m', lq2 (s_X12_undo_142 J) fuel (nI k) mm = J m' ∧ (∀ o c, gJ m' o c = gJ mm o c) ∧ (∀ o c, gR m' o c = gR mm o c) ∧ ∀ o c, gI m' o c = if k ≤ c ∧ c < 4 then (if o = 2 then gI mm 26 c else if o = 3 then gI mm 27 c else if o = 4 then gI mm 28 c else gI mm o c) else gI mm o c
  | 0, k, fuel, mm, h1, h2 => by
    obtain ⟨f, rfl⟩ : ∃ f, fuel = f + 1 := ⟨fuel - 1, by omega⟩
    refine ⟨mm, ?_, fun _ _ => rfl, fun _ _ => rfl, fun o c => by rw [if_neg (by omega)]⟩
    rw [lq2_u]
    unfold s_X12_undo_142
    simp (disch := omega) only [lt1, jn, bd_s, bd2_s, oc_s, oc_n, li0, li1, li2, li3, li4, li5, li6, li7, li8, li9, li10, li11, li12, li13, li14, li16, li20, li21, li22, li24, li30, li31, li33, li38, li39, li40, li41, li45, li48, li50, li51, li57, li58, li59, li60, li61, li62, li64, li70, li71, li72, li99, li100, li101, li104, li107, li109, li116, li120, li121, li124, li127, li128, li144, li255, li300, li360, li372, li396, li600, li999, li1000, li9960, li9990, li1000000, nI_1, nI_add, pk_sub, pk_mul, pk_div, rem_nI, i_lt, i_le, i_eq, okI, ix, isB, nI_clamp, nI_toInt, tneg, gI_sI, gR_sI, gJ_sI, gI_sR, gR_sR, gJ_sR, gI_sJ, gR_sJ, gJ_sJ, true_and, and_true, false_and, and_false, if_true, if_false, if_pos, if_neg]
  | d + 1, k, fuel, mm, h1, h2 => by
    obtain ⟨f, rfl⟩ : ∃ f, fuel = f + 1 := ⟨fuel - 1, by omega⟩
    obtain ⟨m', e1, e2, e3, e4⟩ := m_un2 J d (k + 1) f (gsI (gsI (gsI mm 2 k (gI mm 26 k)) 3 k (gI mm 27 k)) 4 k (gI mm 28 k)) (by omega) (by omega)
    refine ⟨m', ?_, e2, e3, fun o c => ?_⟩
    · rw [← e1, lq2_u]
      generalize lq2 (s_X12_undo_142 J) f = F
      unfold s_X12_undo_142
      simp (disch := omega) only [lt1, jn, bd_s, bd2_s, oc_s, oc_n, li0, li1, li2, li3, li4, li5, li6, li7, li8, li9, li10, li11, li12, li13, li14, li16, li20, li21, li22, li24, li30, li31, li33, li38, li39, li40, li41, li45, li48, li50, li51, li57, li58, li59, li60, li61, li62, li64, li70, li71, li72, li99, li100, li101, li104, li107, li109, li116, li120, li121, li124, li127, li128, li144, li255, li300, li360, li372, li396, li600, li999, li1000, li9960, li9990, li1000000, nI_1, nI_add, pk_sub, pk_mul, pk_div, rem_nI, i_lt, i_le, i_eq, okI, ix, isB, nI_clamp, nI_toInt, tneg, gI_sI, gR_sI, gJ_sI, gI_sR, gR_sR, gJ_sR, gI_sJ, gR_sJ, gJ_sJ, true_and, and_true, false_and, and_false, if_true, if_false, if_pos, if_neg]
    · rw [e4]
      by_cases h1 : c = k
      · subst h1
        by_cases h3 : o = 2
        · subst h3; simp (disch := omega) only [gI_sI, gJ_sI, gR_sI, gI_sJ, gJ_sJ, gR_sJ, gI_sR, gJ_sR, gR_sR, gI_cp, gJ_cp, gR_cp, true_and, and_true, if_true, if_false, if_pos, if_neg]
        by_cases h4 : o = 3
        · subst h4; simp (disch := omega) only [gI_sI, gJ_sI, gR_sI, gI_sJ, gJ_sJ, gR_sJ, gI_sR, gJ_sR, gR_sR, gI_cp, gJ_cp, gR_cp, true_and, and_true, if_true, if_false, if_pos, if_neg]
        by_cases h5 : o = 4
        · subst h5; simp (disch := omega) only [gI_sI, gJ_sI, gR_sI, gI_sJ, gJ_sJ, gR_sJ, gI_sR, gJ_sR, gR_sR, gI_cp, gJ_cp, gR_cp, true_and, and_true, if_true, if_false, if_pos, if_neg]
        simp (disch := omega) only [gI_sI, gJ_sI, gR_sI, gI_sJ, gJ_sJ, gR_sJ, gI_sR, gJ_sR, gR_sR, gI_cp, gJ_cp, gR_cp, true_and, and_true, if_true, if_false, if_pos, if_neg]
      · by_cases h2 : k + 1 ≤ c ∧ c < 4
        · by_cases h3 : o = 2
          · subst h3; simp (disch := omega) only [gI_sI, gJ_sI, gR_sI, gI_sJ, gJ_sJ, gR_sJ, gI_sR, gJ_sR, gR_sR, gI_cp, gJ_cp, gR_cp, true_and, and_true, if_true, if_false, if_pos, if_neg]
          by_cases h4 : o = 3
          · subst h4; simp (disch := omega) only [gI_sI, gJ_sI, gR_sI, gI_sJ, gJ_sJ, gR_sJ, gI_sR, gJ_sR, gR_sR, gI_cp, gJ_cp, gR_cp, true_and, and_true, if_true, if_false, if_pos, if_neg]
          by_cases h5 : o = 4
          · subst h5; simp (disch := omega) only [gI_sI, gJ_sI, gR_sI, gI_sJ, gJ_sJ, gR_sJ, gI_sR, gJ_sR, gR_sR, gI_cp, gJ_cp, gR_cp, true_and, and_true, if_true, if_false, if_pos, if_neg]
          simp (disch := omega) only [gI_sI, gJ_sI, gR_sI, gI_sJ, gJ_sJ, gR_sJ, gI_sR, gJ_sR, gR_sR, gI_cp, gJ_cp, gR_cp, true_and, and_true, if_true, if_false, if_pos, if_neg]
        · simp (disch := omega) only [gI_sI, gJ_sI, gR_sI, gI_sJ, gJ_sJ, gR_sJ, gI_sR, gJ_sR, gR_sR, gI_cp, gJ_cp, gR_cp, true_and, and_true, if_true, if_false, if_pos, if_neg]
theorem m_un3 (J : gMem → Option (Int32 × gMem)) : ∀ (d k fuel : Nat) (mm : gMem), d + k = 16 → d < fuel → ∃ m', lq2 (s_X12_undo_191 J) fuel (nI k) mm = J m' ∧ (∀ o c, gJ m' o c = gJ mm o c) ∧ (∀ o c, gR m' o c = gR mm o c) ∧ ∀ o c, gI m' o c = if k ≤ c ∧ c < 16 then (if o = 5 then gI mm 29 c else gI mm o c) else gI mm o c
  | 0, k, fuel, mm, h1, h2 => by
    obtain ⟨f, rfl⟩ : ∃ f, fuel = f + 1 := ⟨fuel - 1, by omega⟩
    refine ⟨mm, ?_, fun _ _ => rfl, fun _ _ => rfl, fun o c => by rw [if_neg (by omega)]⟩
    rw [lq2_u]
    unfold s_X12_undo_191
    simp (disch := omega) only [lt1, jn, bd_s, bd2_s, oc_s, oc_n, li0, li1, li2, li3, li4, li5, li6, li7, li8, li9, li10, li11, li12, li13, li14, li16, li20, li21, li22, li24, li30, li31, li33, li38, li39, li40, li41, li45, li48, li50, li51, li57, li58, li59, li60, li61, li62, li64, li70, li71, li72, li99, li100, li101, li104, li107, li109, li116, li120, li121, li124, li127, li128, li144, li255, li300, li360, li372, li396, li600, li999, li1000, li9960, li9990, li1000000, nI_1, nI_add, pk_sub, pk_mul, pk_div, rem_nI, i_lt, i_le, i_eq, okI, ix, isB, nI_clamp, nI_toInt, tneg, gI_sI, gR_sI, gJ_sI, gI_sR, gR_sR, gJ_sR, gI_sJ, gR_sJ, gJ_sJ, true_and, and_true, false_and, and_false, if_true, if_false, if_pos, if_neg]
  | d + 1, k, fuel, mm, h1, h2 => by
    obtain ⟨f, rfl⟩ : ∃ f, fuel = f + 1 := ⟨fuel - 1, by omega⟩
    obtain ⟨m', e1, e2, e3, e4⟩ := m_un3 J d (k + 1) f (gsI mm 5 k (gI mm 29 k)) (by omega) (by omega)
    refine ⟨m', ?_, e2, e3, fun o c => ?_⟩
    · rw [← e1, lq2_u]
      generalize lq2 (s_X12_undo_191 J) f = F
      unfold s_X12_undo_191
      simp (disch := omega) only [lt1, jn, bd_s, bd2_s, oc_s, oc_n, li0, li1, li2, li3, li4, li5, li6, li7, li8, li9, li10, li11, li12, li13, li14, li16, li20, li21, li22, li24, li30, li31, li33, li38, li39, li40, li41, li45, li48, li50, li51, li57, li58, li59, li60, li61, li62, li64, li70, li71, li72, li99, li100, li101, li104, li107, li109, li116, li120, li121, li124, li127, li128, li144, li255, li300, li360, li372, li396, li600, li999, li1000, li9960, li9990, li1000000, nI_1, nI_add, pk_sub, pk_mul, pk_div, rem_nI, i_lt, i_le, i_eq, okI, ix, isB, nI_clamp, nI_toInt, tneg, gI_sI, gR_sI, gJ_sI, gI_sR, gR_sR, gJ_sR, gI_sJ, gR_sJ, gJ_sJ, true_and, and_true, false_and, and_false, if_true, if_false, if_pos, if_neg]
    · rw [e4]
      by_cases h1 : c = k
      · subst h1
        by_cases h3 : o = 5
        · subst h3; simp (disch := omega) only [gI_sI, gJ_sI, gR_sI, gI_sJ, gJ_sJ, gR_sJ, gI_sR, gJ_sR, gR_sR, gI_cp, gJ_cp, gR_cp, true_and, and_true, if_true, if_false, if_pos, if_neg]
        simp (disch := omega) only [gI_sI, gJ_sI, gR_sI, gI_sJ, gJ_sJ, gR_sJ, gI_sR, gJ_sR, gR_sR, gI_cp, gJ_cp, gR_cp, true_and, and_true, if_true, if_false, if_pos, if_neg]
      · by_cases h2 : k + 1 ≤ c ∧ c < 16
        · by_cases h3 : o = 5
          · subst h3; simp (disch := omega) only [gI_sI, gJ_sI, gR_sI, gI_sJ, gJ_sJ, gR_sJ, gI_sR, gJ_sR, gR_sR, gI_cp, gJ_cp, gR_cp, true_and, and_true, if_true, if_false, if_pos, if_neg]
          simp (disch := omega) only [gI_sI, gJ_sI, gR_sI, gI_sJ, gJ_sJ, gR_sJ, gI_sR, gJ_sR, gR_sR, gI_cp, gJ_cp, gR_cp, true_and, and_true, if_true, if_false, if_pos, if_neg]
        · simp (disch := omega) only [gI_sI, gJ_sI, gR_sI, gI_sJ, gJ_sJ, gR_sJ, gI_sR, gJ_sR, gR_sR, gI_cp, gJ_cp, gR_cp, true_and, and_true, if_true, if_false, if_pos, if_neg]
theorem m_un4 : ∀ (d k fuel : Nat) (mm : gMem), d + k = 6 → d < fuel → ∃ m', lq2 (s_X12_undo_217) fuel (nI k) mm = some (gI m' 0 0, m') ∧ (∀ o c, gJ m' o c = gJ mm o c) ∧ (∀ o c, gR m' o c = gR mm o c) ∧ ∀ o c, gI m' o c = if k ≤ c ∧ c < 6 then (if o = 21 then gI mm 31 c else if o = 22 then gI mm 32 c else if o = 23 then vp_nar .boolean (gI mm 34 c) else gI mm o c) else gI mm o c
  | 0, k, fuel, mm, h1, h2 => by
    obtain ⟨f, rfl⟩ : ∃ f, fuel = f + 1 := ⟨fuel - 1, by omega⟩
    refine ⟨mm, ?_, fun _ _ => rfl, fun _ _ => rfl, fun o c => by rw [if_neg (by omega)]⟩
    rw [lq2_u]
    unfold s_X12_undo_217
    simp (disch := omega) only [lt1, jn, bd_s, bd2_s, oc_s, oc_n, li0, li1, li2, li3, li4, li5, li6, li7, li8, li9, li10, li11, li12, li13, li14, li16, li20, li21, li22, li24, li30, li31, li33, li38, li39, li40, li41, li45, li48, li50, li51, li57, li58, li59, li60, li61, li62, li64, li70, li71, li72, li99, li100, li101, li104, li107, li109, li116, li120, li121, li124, li127, li128, li144, li255, li300, li360, li372, li396, li600, li999, li1000, li9960, li9990, li1000000, nI_1, nI_add, pk_sub, pk_mul, pk_div, rem_nI, i_lt, i_le, i_eq, okI, ix, isB, nI_clamp, nI_toInt, tneg, gI_sI, gR_sI, gJ_sI, gI_sR, gR_sR, gJ_sR, gI_sJ, gR_sJ, gJ_sJ, true_and, and_true, false_and, and_false, if_true, if_false, if_pos, if_neg]
  | d + 1, k, fuel, mm, h1, h2 => by
    obtain ⟨f, rfl⟩ : ∃ f, fuel = f + 1 := ⟨fuel - 1, by omega⟩
    obtain ⟨m', e1, e2, e3, e4⟩ := m_un4 d (k + 1) f (gsI (gsI (gsI mm 21 k (gI mm 31 k)) 22 k (gI mm 32 k)) 23 k (vp_nar .boolean (gI mm 34 k))) (by omega) (by omega)
    refine ⟨m', ?_, e2, e3, fun o c => ?_⟩
    · rw [← e1, lq2_u]
      generalize lq2 (s_X12_undo_217) f = F
      unfold s_X12_undo_217
      simp (disch := omega) only [lt1, jn, bd_s, bd2_s, oc_s, oc_n, li0, li1, li2, li3, li4, li5, li6, li7, li8, li9, li10, li11, li12, li13, li14, li16, li20, li21, li22, li24, li30, li31, li33, li38, li39, li40, li41, li45, li48, li50, li51, li57, li58, li59, li60, li61, li62, li64, li70, li71, li72, li99, li100, li101, li104, li107, li109, li116, li120, li121, li124, li127, li128, li144, li255, li300, li360, li372, li396, li600, li999, li1000, li9960, li9990, li1000000, nI_1, nI_add, pk_sub, pk_mul, pk_div, rem_nI, i_lt, i_le, i_eq, okI, ix, isB, nI_clamp, nI_toInt, tneg, gI_sI, gR_sI, gJ_sI, gI_sR, gR_sR, gJ_sR, gI_sJ, gR_sJ, gJ_sJ, true_and, and_true, false_and, and_false, if_true, if_false, if_pos, if_neg]
    · rw [e4]
      by_cases h1 : c = k
      · subst h1
        by_cases h3 : o = 21
        · subst h3; simp (disch := omega) only [gI_sI, gJ_sI, gR_sI, gI_sJ, gJ_sJ, gR_sJ, gI_sR, gJ_sR, gR_sR, gI_cp, gJ_cp, gR_cp, true_and, and_true, if_true, if_false, if_pos, if_neg]
        by_cases h4 : o = 22
        · subst h4; simp (disch := omega) only [gI_sI, gJ_sI, gR_sI, gI_sJ, gJ_sJ, gR_sJ, gI_sR, gJ_sR, gR_sR, gI_cp, gJ_cp, gR_cp, true_and, and_true, if_true, if_false, if_pos, if_neg]
        by_cases h5 : o = 23
        · subst h5; simp (disch := omega) only [gI_sI, gJ_sI, gR_sI, gI_sJ, gJ_sJ, gR_sJ, gI_sR, gJ_sR, gR_sR, gI_cp, gJ_cp, gR_cp, true_and, and_true, if_true, if_false, if_pos, if_neg]
        simp (disch := omega) only [gI_sI, gJ_sI, gR_sI, gI_sJ, gJ_sJ, gR_sJ, gI_sR, gJ_sR, gR_sR, gI_cp, gJ_cp, gR_cp, true_and, and_true, if_true, if_false, if_pos, if_neg]
      · by_cases h2 : k + 1 ≤ c ∧ c < 6
        · by_cases h3 : o = 21
          · subst h3; simp (disch := omega) only [gI_sI, gJ_sI, gR_sI, gI_sJ, gJ_sJ, gR_sJ, gI_sR, gJ_sR, gR_sR, gI_cp, gJ_cp, gR_cp, true_and, and_true, if_true, if_false, if_pos, if_neg]
          by_cases h4 : o = 22
          · subst h4; simp (disch := omega) only [gI_sI, gJ_sI, gR_sI, gI_sJ, gJ_sJ, gR_sJ, gI_sR, gJ_sR, gR_sR, gI_cp, gJ_cp, gR_cp, true_and, and_true, if_true, if_false, if_pos, if_neg]
          by_cases h5 : o = 23
          · subst h5; simp (disch := omega) only [gI_sI, gJ_sI, gR_sI, gI_sJ, gJ_sJ, gR_sJ, gI_sR, gJ_sR, gR_sR, gI_cp, gJ_cp, gR_cp, true_and, and_true, if_true, if_false, if_pos, if_neg]
          simp (disch := omega) only [gI_sI, gJ_sI, gR_sI, gI_sJ, gJ_sJ, gR_sJ, gI_sR, gJ_sR, gR_sR, gI_cp, gJ_cp, gR_cp, true_and, and_true, if_true, if_false, if_pos, if_neg]
        · simp (disch := omega) only [gI_sI, gJ_sI, gR_sI, gI_sJ, gJ_sJ, gR_sJ, gI_sR, gJ_sR, gR_sR, gI_cp, gJ_cp, gR_cp, true_and, and_true, if_true, if_false, if_pos, if_neg]
theorem nrB {v : Int32} (h : isB v) : vp_nar .boolean v = v := by
  rcases h with rfl | rfl <;> decide
theorem rgB {v : Int32} (h : rg v 1) : isB v := by
  obtain ⟨n, hn, rfl⟩ := h
  rcases (show n = 0 ∨ n = 1 by omega) with rfl | rfl
  · exact Or.inl rfl
  · exact Or.inr rfl
theorem m_im1' (J : gMem → Option (Int32 × gMem)) (mm : gMem) : ∃ m', lq2 (s_X12_image_87 J) 1000 (0 : Int32) mm = J m' ∧ (∀ o c, gJ m' o c = gJ mm o c) ∧ (∀ o c, gR m' o c = gR mm o c) ∧ (∀ o c, ¬ (o = 25 ∨ o = 30 ∨ o = 33) → gI m' o c = gI mm o c) ∧ (∀ c, c < 12 → gI m' 25 c = gI mm 1 c) ∧ (∀ c, c < 12 → gI m' 30 c = gI mm 16 c) ∧ (∀ c, c < 12 → gI m' 33 c = gI mm 24 c) := by
  obtain ⟨m', e1, e2, e3, e4⟩ := m_im1 J 12 0 1000 mm rfl (by decide)
  refine ⟨m', e1, e2, e3, fun o c q => ?_, fun c hc => ?_, fun c hc => ?_, fun c hc => ?_⟩
  · rw [e4]
    by_cases hc : 0 ≤ c ∧ c < 12 <;> simp (disch := omega) only [gI_n, gI_y, gJ_n, gJ_y, gR_n, gR_y, gI_cn, gI_cy, gJ_sI, gR_sI, gI_sJ, gR_sJ, gI_sR, gJ_sR, gJ_cp, gR_cp, true_and, and_true, if_true, if_false, if_pos, if_neg]
  · rw [e4]; simp (disch := omega) only [gI_n, gI_y, gJ_n, gJ_y, gR_n, gR_y, gI_cn, gI_cy, gJ_sI, gR_sI, gI_sJ, gR_sJ, gI_sR, gJ_sR, gJ_cp, gR_cp, true_and, and_true, if_true, if_false, if_pos, if_neg]
  · rw [e4]; simp (disch := omega) only [gI_n, gI_y, gJ_n, gJ_y, gR_n, gR_y, gI_cn, gI_cy, gJ_sI, gR_sI, gI_sJ, gR_sJ, gI_sR, gJ_sR, gJ_cp, gR_cp, true_and, and_true, if_true, if_false, if_pos, if_neg]
  · rw [e4]; simp (disch := omega) only [gI_n, gI_y, gJ_n, gJ_y, gR_n, gR_y, gI_cn, gI_cy, gJ_sI, gR_sI, gI_sJ, gR_sJ, gI_sR, gJ_sR, gJ_cp, gR_cp, true_and, and_true, if_true, if_false, if_pos, if_neg]
theorem m_im2' (J : gMem → Option (Int32 × gMem)) (mm : gMem) : ∃ m', lq2 (s_X12_image_137 J) 1000 (0 : Int32) mm = J m' ∧ (∀ o c, gJ m' o c = gJ mm o c) ∧ (∀ o c, gR m' o c = gR mm o c) ∧ (∀ o c, ¬ (o = 26 ∨ o = 27 ∨ o = 28) → gI m' o c = gI mm o c) ∧ (∀ c, c < 4 → gI m' 26 c = gI mm 2 c) ∧ (∀ c, c < 4 → gI m' 27 c = gI mm 3 c) ∧ (∀ c, c < 4 → gI m' 28 c = gI mm 4 c) := by
  obtain ⟨m', e1, e2, e3, e4⟩ := m_im2 J 4 0 1000 mm rfl (by decide)
  refine ⟨m', e1, e2, e3, fun o c q => ?_, fun c hc => ?_, fun c hc => ?_, fun c hc => ?_⟩
  · rw [e4]
    by_cases hc : 0 ≤ c ∧ c < 4 <;> simp (disch := omega) only [gI_n, gI_y, gJ_n, gJ_y, gR_n, gR_y, gI_cn, gI_cy, gJ_sI, gR_sI, gI_sJ, gR_sJ, gI_sR, gJ_sR, gJ_cp, gR_cp, true_and, and_true, if_true, if_false, if_pos, if_neg]
  · rw [e4]; simp (disch := omega) only [gI_n, gI_y, gJ_n, gJ_y, gR_n, gR_y, gI_cn, gI_cy, gJ_sI, gR_sI, gI_sJ, gR_sJ, gI_sR, gJ_sR, gJ_cp, gR_cp, true_and, and_true, if_true, if_false, if_pos, if_neg]
  · rw [e4]; simp (disch := omega) only [gI_n, gI_y, gJ_n, gJ_y, gR_n, gR_y, gI_cn, gI_cy, gJ_sI, gR_sI, gI_sJ, gR_sJ, gI_sR, gJ_sR, gJ_cp, gR_cp, true_and, and_true, if_true, if_false, if_pos, if_neg]
  · rw [e4]; simp (disch := omega) only [gI_n, gI_y, gJ_n, gJ_y, gR_n, gR_y, gI_cn, gI_cy, gJ_sI, gR_sI, gI_sJ, gR_sJ, gI_sR, gJ_sR, gJ_cp, gR_cp, true_and, and_true, if_true, if_false, if_pos, if_neg]
theorem m_im3' (J : gMem → Option (Int32 × gMem)) (mm : gMem) : ∃ m', lq2 (s_X12_image_186 J) 1000 (0 : Int32) mm = J m' ∧ (∀ o c, gJ m' o c = gJ mm o c) ∧ (∀ o c, gR m' o c = gR mm o c) ∧ (∀ o c, ¬ (o = 29) → gI m' o c = gI mm o c) ∧ (∀ c, c < 16 → gI m' 29 c = gI mm 5 c) := by
  obtain ⟨m', e1, e2, e3, e4⟩ := m_im3 J 16 0 1000 mm rfl (by decide)
  refine ⟨m', e1, e2, e3, fun o c q => ?_, fun c hc => ?_⟩
  · rw [e4]
    by_cases hc : 0 ≤ c ∧ c < 16 <;> simp (disch := omega) only [gI_n, gI_y, gJ_n, gJ_y, gR_n, gR_y, gI_cn, gI_cy, gJ_sI, gR_sI, gI_sJ, gR_sJ, gI_sR, gJ_sR, gJ_cp, gR_cp, true_and, and_true, if_true, if_false, if_pos, if_neg]
  · rw [e4]; simp (disch := omega) only [gI_n, gI_y, gJ_n, gJ_y, gR_n, gR_y, gI_cn, gI_cy, gJ_sI, gR_sI, gI_sJ, gR_sJ, gI_sR, gJ_sR, gJ_cp, gR_cp, true_and, and_true, if_true, if_false, if_pos, if_neg]
theorem m_im4' (mm : gMem) (hb : ∀ c, c < 6 → isB (gI mm 23 c)) : ∃ m', lq2 (s_X12_image_212) 1000 (0 : Int32) mm = some (gI m' 0 0, m') ∧ (∀ o c, gJ m' o c = gJ mm o c) ∧ (∀ o c, gR m' o c = gR mm o c) ∧ (∀ o c, ¬ (o = 31 ∨ o = 32 ∨ o = 34) → gI m' o c = gI mm o c) ∧ (∀ c, c < 6 → gI m' 31 c = gI mm 21 c) ∧ (∀ c, c < 6 → gI m' 32 c = gI mm 22 c) ∧ (∀ c, c < 6 → gI m' 34 c = gI mm 23 c) := by
  obtain ⟨m', e1, e2, e3, e4⟩ := m_im4 6 0 1000 mm rfl (by decide)
  refine ⟨m', e1, e2, e3, fun o c q => ?_, fun c hc => ?_, fun c hc => ?_, fun c hc => ?_⟩
  · rw [e4]
    by_cases hc : 0 ≤ c ∧ c < 6 <;> simp (disch := omega) only [gI_n, gI_y, gJ_n, gJ_y, gR_n, gR_y, gI_cn, gI_cy, gJ_sI, gR_sI, gI_sJ, gR_sJ, gI_sR, gJ_sR, gJ_cp, gR_cp, true_and, and_true, if_true, if_false, if_pos, if_neg]
  · rw [e4]; simp (disch := omega) only [gI_n, gI_y, gJ_n, gJ_y, gR_n, gR_y, gI_cn, gI_cy, gJ_sI, gR_sI, gI_sJ, gR_sJ, gI_sR, gJ_sR, gJ_cp, gR_cp, true_and, and_true, if_true, if_false, if_pos, if_neg]
  · rw [e4]; simp (disch := omega) only [gI_n, gI_y, gJ_n, gJ_y, gR_n, gR_y, gI_cn, gI_cy, gJ_sI, gR_sI, gI_sJ, gR_sJ, gI_sR, gJ_sR, gJ_cp, gR_cp, true_and, and_true, if_true, if_false, if_pos, if_neg]
  · rw [e4]; simp (disch := omega) only [gI_n, gI_y, gJ_n, gJ_y, gR_n, gR_y, gI_cn, gI_cy, gJ_sI, gR_sI, gI_sJ, gR_sJ, gI_sR, gJ_sR, gJ_cp, gR_cp, true_and, and_true, if_true, if_false, if_pos, if_neg]
    exact nrB (hb c hc)
theorem m_un1' (J : gMem → Option (Int32 × gMem)) (mm : gMem) : ∃ m', lq2 (s_X12_undo_92 J) 1000 (0 : Int32) mm = J m' ∧ (∀ o c, gJ m' o c = gJ mm o c) ∧ (∀ o c, gR m' o c = gR mm o c) ∧ (∀ o c, ¬ (o = 1 ∨ o = 16 ∨ o = 24) → gI m' o c = gI mm o c) ∧ (∀ c, c < 12 → gI m' 1 c = gI mm 25 c) ∧ (∀ c, c < 12 → gI m' 16 c = gI mm 30 c) ∧ (∀ c, c < 12 → gI m' 24 c = gI mm 33 c) := by
  obtain ⟨m', e1, e2, e3, e4⟩ := m_un1 J 12 0 1000 mm rfl (by decide)
  refine ⟨m', e1, e2, e3, fun o c q => ?_, fun c hc => ?_, fun c hc => ?_, fun c hc => ?_⟩
  · rw [e4]
    by_cases hc : 0 ≤ c ∧ c < 12 <;> simp (disch := omega) only [gI_n, gI_y, gJ_n, gJ_y, gR_n, gR_y, gI_cn, gI_cy, gJ_sI, gR_sI, gI_sJ, gR_sJ, gI_sR, gJ_sR, gJ_cp, gR_cp, true_and, and_true, if_true, if_false, if_pos, if_neg]
  · rw [e4]; simp (disch := omega) only [gI_n, gI_y, gJ_n, gJ_y, gR_n, gR_y, gI_cn, gI_cy, gJ_sI, gR_sI, gI_sJ, gR_sJ, gI_sR, gJ_sR, gJ_cp, gR_cp, true_and, and_true, if_true, if_false, if_pos, if_neg]
  · rw [e4]; simp (disch := omega) only [gI_n, gI_y, gJ_n, gJ_y, gR_n, gR_y, gI_cn, gI_cy, gJ_sI, gR_sI, gI_sJ, gR_sJ, gI_sR, gJ_sR, gJ_cp, gR_cp, true_and, and_true, if_true, if_false, if_pos, if_neg]
  · rw [e4]; simp (disch := omega) only [gI_n, gI_y, gJ_n, gJ_y, gR_n, gR_y, gI_cn, gI_cy, gJ_sI, gR_sI, gI_sJ, gR_sJ, gI_sR, gJ_sR, gJ_cp, gR_cp, true_and, and_true, if_true, if_false, if_pos, if_neg]
theorem m_un2' (J : gMem → Option (Int32 × gMem)) (mm : gMem) : ∃ m', lq2 (s_X12_undo_142 J) 1000 (0 : Int32) mm = J m' ∧ (∀ o c, gJ m' o c = gJ mm o c) ∧ (∀ o c, gR m' o c = gR mm o c) ∧ (∀ o c, ¬ (o = 2 ∨ o = 3 ∨ o = 4) → gI m' o c = gI mm o c) ∧ (∀ c, c < 4 → gI m' 2 c = gI mm 26 c) ∧ (∀ c, c < 4 → gI m' 3 c = gI mm 27 c) ∧ (∀ c, c < 4 → gI m' 4 c = gI mm 28 c) := by
  obtain ⟨m', e1, e2, e3, e4⟩ := m_un2 J 4 0 1000 mm rfl (by decide)
  refine ⟨m', e1, e2, e3, fun o c q => ?_, fun c hc => ?_, fun c hc => ?_, fun c hc => ?_⟩
  · rw [e4]
    by_cases hc : 0 ≤ c ∧ c < 4 <;> simp (disch := omega) only [gI_n, gI_y, gJ_n, gJ_y, gR_n, gR_y, gI_cn, gI_cy, gJ_sI, gR_sI, gI_sJ, gR_sJ, gI_sR, gJ_sR, gJ_cp, gR_cp, true_and, and_true, if_true, if_false, if_pos, if_neg]
  · rw [e4]; simp (disch := omega) only [gI_n, gI_y, gJ_n, gJ_y, gR_n, gR_y, gI_cn, gI_cy, gJ_sI, gR_sI, gI_sJ, gR_sJ, gI_sR, gJ_sR, gJ_cp, gR_cp, true_and, and_true, if_true, if_false, if_pos, if_neg]
  · rw [e4]; simp (disch := omega) only [gI_n, gI_y, gJ_n, gJ_y, gR_n, gR_y, gI_cn, gI_cy, gJ_sI, gR_sI, gI_sJ, gR_sJ, gI_sR, gJ_sR, gJ_cp, gR_cp, true_and, and_true, if_true, if_false, if_pos, if_neg]
  · rw [e4]; simp (disch := omega) only [gI_n, gI_y, gJ_n, gJ_y, gR_n, gR_y, gI_cn, gI_cy, gJ_sI, gR_sI, gI_sJ, gR_sJ, gI_sR, gJ_sR, gJ_cp, gR_cp, true_and, and_true, if_true, if_false, if_pos, if_neg]
theorem m_un3' (J : gMem → Option (Int32 × gMem)) (mm : gMem) : ∃ m', lq2 (s_X12_undo_191 J) 1000 (0 : Int32) mm = J m' ∧ (∀ o c, gJ m' o c = gJ mm o c) ∧ (∀ o c, gR m' o c = gR mm o c) ∧ (∀ o c, ¬ (o = 5) → gI m' o c = gI mm o c) ∧ (∀ c, c < 16 → gI m' 5 c = gI mm 29 c) := by
  obtain ⟨m', e1, e2, e3, e4⟩ := m_un3 J 16 0 1000 mm rfl (by decide)
  refine ⟨m', e1, e2, e3, fun o c q => ?_, fun c hc => ?_⟩
  · rw [e4]
    by_cases hc : 0 ≤ c ∧ c < 16 <;> simp (disch := omega) only [gI_n, gI_y, gJ_n, gJ_y, gR_n, gR_y, gI_cn, gI_cy, gJ_sI, gR_sI, gI_sJ, gR_sJ, gI_sR, gJ_sR, gJ_cp, gR_cp, true_and, and_true, if_true, if_false, if_pos, if_neg]
  · rw [e4]; simp (disch := omega) only [gI_n, gI_y, gJ_n, gJ_y, gR_n, gR_y, gI_cn, gI_cy, gJ_sI, gR_sI, gI_sJ, gR_sJ, gI_sR, gJ_sR, gJ_cp, gR_cp, true_and, and_true, if_true, if_false, if_pos, if_neg]
theorem m_un4' (mm : gMem) (hb : ∀ c, c < 6 → isB (gI mm 34 c)) : ∃ m', lq2 (s_X12_undo_217) 1000 (0 : Int32) mm = some (gI m' 0 0, m') ∧ (∀ o c, gJ m' o c = gJ mm o c) ∧ (∀ o c, gR m' o c = gR mm o c) ∧ (∀ o c, ¬ (o = 21 ∨ o = 22 ∨ o = 23) → gI m' o c = gI mm o c) ∧ (∀ c, c < 6 → gI m' 21 c = gI mm 31 c) ∧ (∀ c, c < 6 → gI m' 22 c = gI mm 32 c) ∧ (∀ c, c < 6 → gI m' 23 c = gI mm 34 c) := by
  obtain ⟨m', e1, e2, e3, e4⟩ := m_un4 6 0 1000 mm rfl (by decide)
  refine ⟨m', e1, e2, e3, fun o c q => ?_, fun c hc => ?_, fun c hc => ?_, fun c hc => ?_⟩
  · rw [e4]
    by_cases hc : 0 ≤ c ∧ c < 6 <;> simp (disch := omega) only [gI_n, gI_y, gJ_n, gJ_y, gR_n, gR_y, gI_cn, gI_cy, gJ_sI, gR_sI, gI_sJ, gR_sJ, gI_sR, gJ_sR, gJ_cp, gR_cp, true_and, and_true, if_true, if_false, if_pos, if_neg]
  · rw [e4]; simp (disch := omega) only [gI_n, gI_y, gJ_n, gJ_y, gR_n, gR_y, gI_cn, gI_cy, gJ_sI, gR_sI, gI_sJ, gR_sJ, gI_sR, gJ_sR, gJ_cp, gR_cp, true_and, and_true, if_true, if_false, if_pos, if_neg]
  · rw [e4]; simp (disch := omega) only [gI_n, gI_y, gJ_n, gJ_y, gR_n, gR_y, gI_cn, gI_cy, gJ_sI, gR_sI, gI_sJ, gR_sJ, gI_sR, gJ_sR, gJ_cp, gR_cp, true_and, and_true, if_true, if_false, if_pos, if_neg]
  · rw [e4]; simp (disch := omega) only [gI_n, gI_y, gJ_n, gJ_y, gR_n, gR_y, gI_cn, gI_cy, gJ_sI, gR_sI, gI_sJ, gR_sJ, gI_sR, gJ_sR, gJ_cp, gR_cp, true_and, and_true, if_true, if_false, if_pos, if_neg]
    exact nrB (hb c hc)
theorem x_tfI (x : gMem) (ha : isB (gI x 10 6)) : ∃ x1, f_X2_takeFromI L x = some x1 ∧ (∀ o c, gJ x1 o c = gJ x o c) ∧ (∀ o c, gR x1 o c = if o = 20 ∧ c = 15 then gR x 10 15 else gR x o c) ∧ (∀ o c, ¬ (20 ≤ o ∧ o ≤ 26) → gI x1 o c = gI x o c) ∧ gI x1 20 1 = gI x 10 1 ∧ gI x1 20 2 = gI x 10 2 ∧ gI x1 20 3 = gI x 10 3 ∧ gI x1 20 4 = gI x 10 4 ∧ gI x1 20 5 = gI x 10 5 ∧ gI x1 20 6 = gI x 10 6 ∧ gI x1 20 8 = gI x 10 8 ∧ gI x1 20 12 = gI x 10 12 ∧ gI x1 20 14 = gI x 10 14 ∧ (∀ c, c < 12 → gI x1 21 c = gI x 11 c) ∧ (∀ c, c < 12 → gI x1 22 c = gI x 12 c) ∧ (∀ c, c < 6 → gI x1 23 c = gI x 13 c) ∧ (∀ c, c < 6 → gI x1 24 c = gI x 14 c) ∧ (∀ c, c < 6 → gI x1 25 c = gI x 15 c) ∧ (∀ c, c < 12 → gI x1 26 c = gI x 16 c) := by
  refine ⟨gsR (gsI (gcp (gsI (gcp (gcp (gcp (gsI (gcp (gsI (gsI (gsI (gsI (gsI (gsI (gcp (x) 11 21 12) 20 1 (gI x 10 1)) 20 2 (gI x 10 2)) 20 3 (gI x 10 3)) 20 4 (gI x 10 4)) 20 5 (gI x 10 5)) 20 6 (gI x 10 6)) 12 22 12) 20 8 (gI x 10 8)) 13 23 6) 14 24 6) 15 25 6) 20 12 (gI x 10 12)) 16 26 12) 20 14 (gI x 10 14)) 20 15 (gR x 10 15), ?_, fun _ _ => rfl, fun _ _ => rfl, fun o c q => ?_, ?_, ?_, ?_, ?_, ?_, ?_, ?_, ?_, ?_, fun c hc => ?_, fun c hc => ?_, fun c hc => ?_, fun c hc => ?_, fun c hc => ?_, fun c hc => ?_⟩
  · unfold f_X2_takeFromI
    simp (disch := omega) only [lt1, gI_n, gI_y, gJ_n, gJ_y, gR_n, gR_y, gI_cn, gI_cy, gJ_sI, gR_sI, gI_sJ, gR_sJ, gI_sR, gJ_sR, gJ_cp, gR_cp, true_and, and_true, if_true, if_false, if_pos, if_neg]
    exact if_pos ha
  · simp (disch := omega) only [gI_n, gI_y, gJ_n, gJ_y, gR_n, gR_y, gI_cn, gI_cy, gJ_sI, gR_sI, gI_sJ, gR_sJ, gI_sR, gJ_sR, gJ_cp, gR_cp, true_and, and_true, if_true, if_false, if_pos, if_neg]
  · simp (disch := omega) only [gI_n, gI_y, gJ_n, gJ_y, gR_n, gR_y, gI_cn, gI_cy, gJ_sI, gR_sI, gI_sJ, gR_sJ, gI_sR, gJ_sR, gJ_cp, gR_cp, true_and, and_true, if_true, if_false, if_pos, if_neg]
  · simp (disch := omega) only [gI_n, gI_y, gJ_n, gJ_y, gR_n, gR_y, gI_cn, gI_cy, gJ_sI, gR_sI, gI_sJ, gR_sJ, gI_sR, gJ_sR, gJ_cp, gR_cp, true_and, and_true, if_true, if_false, if_pos, if_neg]
  · simp (disch := omega) only [gI_n, gI_y, gJ_n, gJ_y, gR_n, gR_y, gI_cn, gI_cy, gJ_sI, gR_sI, gI_sJ, gR_sJ, gI_sR, gJ_sR, gJ_cp, gR_cp, true_and, and_true, if_true, if_false, if_pos, if_neg]
  · simp (disch := omega) only [gI_n, gI_y, gJ_n, gJ_y, gR_n, gR_y, gI_cn, gI_cy, gJ_sI, gR_sI, gI_sJ, gR_sJ, gI_sR, gJ_sR, gJ_cp, gR_cp, true_and, and_true, if_true, if_false, if_pos, if_neg]
  · simp (disch := omega) only [gI_n, gI_y, gJ_n, gJ_y, gR_n, gR_y, gI_cn, gI_cy, gJ_sI, gR_sI, gI_sJ, gR_sJ, gI_sR, gJ_sR, gJ_cp, gR_cp, true_and, and_true, if_true, if_false, if_pos, if_neg]
  · simp (disch := omega) only [gI_n, gI_y, gJ_n, gJ_y, gR_n, gR_y, gI_cn, gI_cy, gJ_sI, gR_sI, gI_sJ, gR_sJ, gI_sR, gJ_sR, gJ_cp, gR_cp, true_and, and_true, if_true, if_false, if_pos, if_neg]
  · simp (disch := omega) only [gI_n, gI_y, gJ_n, gJ_y, gR_n, gR_y, gI_cn, gI_cy, gJ_sI, gR_sI, gI_sJ, gR_sJ, gI_sR, gJ_sR, gJ_cp, gR_cp, true_and, and_true, if_true, if_false, if_pos, if_neg]
  · simp (disch := omega) only [gI_n, gI_y, gJ_n, gJ_y, gR_n, gR_y, gI_cn, gI_cy, gJ_sI, gR_sI, gI_sJ, gR_sJ, gI_sR, gJ_sR, gJ_cp, gR_cp, true_and, and_true, if_true, if_false, if_pos, if_neg]
  · simp (disch := omega) only [gI_n, gI_y, gJ_n, gJ_y, gR_n, gR_y, gI_cn, gI_cy, gJ_sI, gR_sI, gI_sJ, gR_sJ, gI_sR, gJ_sR, gJ_cp, gR_cp, true_and, and_true, if_true, if_false, if_pos, if_neg]
  · simp (disch := omega) only [gI_n, gI_y, gJ_n, gJ_y, gR_n, gR_y, gI_cn, gI_cy, gJ_sI, gR_sI, gI_sJ, gR_sJ, gI_sR, gJ_sR, gJ_cp, gR_cp, true_and, and_true, if_true, if_false, if_pos, if_neg]
  · simp (disch := omega) only [gI_n, gI_y, gJ_n, gJ_y, gR_n, gR_y, gI_cn, gI_cy, gJ_sI, gR_sI, gI_sJ, gR_sJ, gI_sR, gJ_sR, gJ_cp, gR_cp, true_and, and_true, if_true, if_false, if_pos, if_neg]
  · simp (disch := omega) only [gI_n, gI_y, gJ_n, gJ_y, gR_n, gR_y, gI_cn, gI_cy, gJ_sI, gR_sI, gI_sJ, gR_sJ, gI_sR, gJ_sR, gJ_cp, gR_cp, true_and, and_true, if_true, if_false, if_pos, if_neg]
  · simp (disch := omega) only [gI_n, gI_y, gJ_n, gJ_y, gR_n, gR_y, gI_cn, gI_cy, gJ_sI, gR_sI, gI_sJ, gR_sJ, gI_sR, gJ_sR, gJ_cp, gR_cp, true_and, and_true, if_true, if_false, if_pos, if_neg]
  · simp (disch := omega) only [gI_n, gI_y, gJ_n, gJ_y, gR_n, gR_y, gI_cn, gI_cy, gJ_sI, gR_sI, gI_sJ, gR_sJ, gI_sR, gJ_sR, gJ_cp, gR_cp, true_and, and_true, if_true, if_false, if_pos, if_neg]
  · simp (disch := omega) only [gI_n, gI_y, gJ_n, gJ_y, gR_n, gR_y, gI_cn, gI_cy, gJ_sI, gR_sI, gI_sJ, gR_sJ, gI_sR, gJ_sR, gJ_cp, gR_cp, true_and, and_true, if_true, if_false, if_pos, if_neg]
theorem x_tfN (x : gMem) (ha : isB (gI x 20 6)) : ∃ x1, f_X2_takeFromN L x = some x1 ∧ (∀ o c, gJ x1 o c = gJ x o c) ∧ (∀ o c, gR x1 o c = if o = 10 ∧ c = 15 then gR x 20 15 else gR x o c) ∧ (∀ o c, ¬ (10 ≤ o ∧ o ≤ 16) → gI x1 o c = gI x o c) ∧ gI x1 10 1 = gI x 20 1 ∧ gI x1 10 2 = gI x 20 2 ∧ gI x1 10 3 = gI x 20 3 ∧ gI x1 10 4 = gI x 20 4 ∧ gI x1 10 5 = gI x 20 5 ∧ gI x1 10 6 = gI x 20 6 ∧ gI x1 10 8 = gI x 20 8 ∧ gI x1 10 12 = gI x 20 12 ∧ gI x1 10 14 = gI x 20 14 ∧ (∀ c, c < 12 → gI x1 11 c = gI x 21 c) ∧ (∀ c, c < 12 → gI x1 12 c = gI x 22 c) ∧ (∀ c, c < 6 → gI x1 13 c = gI x 23 c) ∧ (∀ c, c < 6 → gI x1 14 c = gI x 24 c) ∧ (∀ c, c < 6 → gI x1 15 c = gI x 25 c) ∧ (∀ c, c < 12 → gI x1 16 c = gI x 26 c) := by
  refine ⟨gsR (gsI (gcp (gsI (gcp (gcp (gcp (gsI (gcp (gsI (gsI (gsI (gsI (gsI (gsI (gcp (x) 21 11 12) 10 1 (gI x 20 1)) 10 2 (gI x 20 2)) 10 3 (gI x 20 3)) 10 4 (gI x 20 4)) 10 5 (gI x 20 5)) 10 6 (gI x 20 6)) 22 12 12) 10 8 (gI x 20 8)) 23 13 6) 24 14 6) 25 15 6) 10 12 (gI x 20 12)) 26 16 12) 10 14 (gI x 20 14)) 10 15 (gR x 20 15), ?_, fun _ _ => rfl, fun _ _ => rfl, fun o c q => ?_, ?_, ?_, ?_, ?_, ?_, ?_, ?_, ?_, ?_, fun c hc => ?_, fun c hc => ?_, fun c hc => ?_, fun c hc => ?_, fun c hc => ?_, fun c hc => ?_⟩
  · unfold f_X2_takeFromN
    simp (disch := omega) only [lt1, gI_n, gI_y, gJ_n, gJ_y, gR_n, gR_y, gI_cn, gI_cy, gJ_sI, gR_sI, gI_sJ, gR_sJ, gI_sR, gJ_sR, gJ_cp, gR_cp, true_and, and_true, if_true, if_false, if_pos, if_neg]
    exact if_pos ha
  · simp (disch := omega) only [gI_n, gI_y, gJ_n, gJ_y, gR_n, gR_y, gI_cn, gI_cy, gJ_sI, gR_sI, gI_sJ, gR_sJ, gI_sR, gJ_sR, gJ_cp, gR_cp, true_and, and_true, if_true, if_false, if_pos, if_neg]
  · simp (disch := omega) only [gI_n, gI_y, gJ_n, gJ_y, gR_n, gR_y, gI_cn, gI_cy, gJ_sI, gR_sI, gI_sJ, gR_sJ, gI_sR, gJ_sR, gJ_cp, gR_cp, true_and, and_true, if_true, if_false, if_pos, if_neg]
  · simp (disch := omega) only [gI_n, gI_y, gJ_n, gJ_y, gR_n, gR_y, gI_cn, gI_cy, gJ_sI, gR_sI, gI_sJ, gR_sJ, gI_sR, gJ_sR, gJ_cp, gR_cp, true_and, and_true, if_true, if_false, if_pos, if_neg]
  · simp (disch := omega) only [gI_n, gI_y, gJ_n, gJ_y, gR_n, gR_y, gI_cn, gI_cy, gJ_sI, gR_sI, gI_sJ, gR_sJ, gI_sR, gJ_sR, gJ_cp, gR_cp, true_and, and_true, if_true, if_false, if_pos, if_neg]
  · simp (disch := omega) only [gI_n, gI_y, gJ_n, gJ_y, gR_n, gR_y, gI_cn, gI_cy, gJ_sI, gR_sI, gI_sJ, gR_sJ, gI_sR, gJ_sR, gJ_cp, gR_cp, true_and, and_true, if_true, if_false, if_pos, if_neg]
  · simp (disch := omega) only [gI_n, gI_y, gJ_n, gJ_y, gR_n, gR_y, gI_cn, gI_cy, gJ_sI, gR_sI, gI_sJ, gR_sJ, gI_sR, gJ_sR, gJ_cp, gR_cp, true_and, and_true, if_true, if_false, if_pos, if_neg]
  · simp (disch := omega) only [gI_n, gI_y, gJ_n, gJ_y, gR_n, gR_y, gI_cn, gI_cy, gJ_sI, gR_sI, gI_sJ, gR_sJ, gI_sR, gJ_sR, gJ_cp, gR_cp, true_and, and_true, if_true, if_false, if_pos, if_neg]
  · simp (disch := omega) only [gI_n, gI_y, gJ_n, gJ_y, gR_n, gR_y, gI_cn, gI_cy, gJ_sI, gR_sI, gI_sJ, gR_sJ, gI_sR, gJ_sR, gJ_cp, gR_cp, true_and, and_true, if_true, if_false, if_pos, if_neg]
  · simp (disch := omega) only [gI_n, gI_y, gJ_n, gJ_y, gR_n, gR_y, gI_cn, gI_cy, gJ_sI, gR_sI, gI_sJ, gR_sJ, gI_sR, gJ_sR, gJ_cp, gR_cp, true_and, and_true, if_true, if_false, if_pos, if_neg]
  · simp (disch := omega) only [gI_n, gI_y, gJ_n, gJ_y, gR_n, gR_y, gI_cn, gI_cy, gJ_sI, gR_sI, gI_sJ, gR_sJ, gI_sR, gJ_sR, gJ_cp, gR_cp, true_and, and_true, if_true, if_false, if_pos, if_neg]
  · simp (disch := omega) only [gI_n, gI_y, gJ_n, gJ_y, gR_n, gR_y, gI_cn, gI_cy, gJ_sI, gR_sI, gI_sJ, gR_sJ, gI_sR, gJ_sR, gJ_cp, gR_cp, true_and, and_true, if_true, if_false, if_pos, if_neg]
  · simp (disch := omega) only [gI_n, gI_y, gJ_n, gJ_y, gR_n, gR_y, gI_cn, gI_cy, gJ_sI, gR_sI, gI_sJ, gR_sJ, gI_sR, gJ_sR, gJ_cp, gR_cp, true_and, and_true, if_true, if_false, if_pos, if_neg]
  · simp (disch := omega) only [gI_n, gI_y, gJ_n, gJ_y, gR_n, gR_y, gI_cn, gI_cy, gJ_sI, gR_sI, gI_sJ, gR_sJ, gI_sR, gJ_sR, gJ_cp, gR_cp, true_and, and_true, if_true, if_false, if_pos, if_neg]
  · simp (disch := omega) only [gI_n, gI_y, gJ_n, gJ_y, gR_n, gR_y, gI_cn, gI_cy, gJ_sI, gR_sI, gI_sJ, gR_sJ, gI_sR, gJ_sR, gJ_cp, gR_cp, true_and, and_true, if_true, if_false, if_pos, if_neg]
  · simp (disch := omega) only [gI_n, gI_y, gJ_n, gJ_y, gR_n, gR_y, gI_cn, gI_cy, gJ_sI, gR_sI, gI_sJ, gR_sJ, gI_sR, gJ_sR, gJ_cp, gR_cp, true_and, and_true, if_true, if_false, if_pos, if_neg]
  · simp (disch := omega) only [gI_n, gI_y, gJ_n, gJ_y, gR_n, gR_y, gI_cn, gI_cy, gJ_sI, gR_sI, gI_sJ, gR_sJ, gI_sR, gJ_sR, gJ_cp, gR_cp, true_and, and_true, if_true, if_false, if_pos, if_neg]
theorem m_image (m : gMem) (ha : isB (gI m 0 5)) (hb : ∀ c, c < 6 → isB (gI m 23 c)) : ∃ m', f_X12_image m = some (gI m 0 0, m') ∧ (∀ o c, gJ m' o c = gJ m o c) ∧ (∀ o c, gR m' o c = gR m o c) ∧ (∀ o c, ¬ ((o = 0 ∧ 47 ≤ c ∧ c ≤ 57) ∨ (25 ≤ o ∧ o ≤ 34)) → gI m' o c = gI m o c) ∧ gI m' 0 47 = nI 1 ∧ gI m' 0 48 = gI m 0 5 ∧ gI m' 0 49 = gI m 0 12 ∧ gI m' 0 50 = gI m 0 0 ∧ gI m' 0 51 = gI m 0 1 ∧ gI m' 0 52 = gI m 0 2 ∧ gI m' 0 53 = gI m 0 3 ∧ gI m' 0 54 = gI m 0 4 ∧ gI m' 0 55 = gI m 0 30 ∧ gI m' 0 56 = gI m 0 41 ∧ gI m' 0 57 = gI m 0 45 ∧ (∀ c, c < 12 → gI m' 25 c = gI m 1 c) ∧ (∀ c, c < 12 → gI m' 30 c = gI m 16 c) ∧ (∀ c, c < 12 → gI m' 33 c = gI m 24 c) ∧ (∀ c, c < 4 → gI m' 26 c = gI m 2 c) ∧ (∀ c, c < 4 → gI m' 27 c = gI m 3 c) ∧ (∀ c, c < 4 → gI m' 28 c = gI m 4 c) ∧ (∀ c, c < 16 → gI m' 29 c = gI m 5 c) ∧ (∀ c, c < 6 → gI m' 31 c = gI m 21 c) ∧ (∀ c, c < 6 → gI m' 32 c = gI m 22 c) ∧ ∀ c, c < 6 → gI m' 34 c = gI m 23 c := by
  obtain ⟨m1, a1, a2, a3, aF, v1, v2, v3⟩ := m_im1' (fun (m20 : gMem) => lq2 (s_X12_image_137 (fun (m29 : gMem) => lq2 (s_X12_image_186 (fun (m36 : gMem) => lq2 (s_X12_image_212) 1000 (0 : Int32) m36)) 1000 (0 : Int32) m29)) 1000 (0 : Int32) m20) (gsI (gsI (gsI (gsI (gsI (gsI (gsI (gsI (gsI (gsI (gsI m 0 47 1) 0 48 (gI m 0 5)) 0 49 (gI m 0 12)) 0 50 (gI m 0 0)) 0 51 (gI m 0 1)) 0 52 (gI m 0 2)) 0 53 (gI m 0 3)) 0 54 (gI m 0 4)) 0 55 (gI m 0 30)) 0 56 (gI m 0 41)) 0 57 (gI m 0 45))
  obtain ⟨m2, b1, b2, b3, bF, v4, v5, v6⟩ := m_im2' (fun (m29 : gMem) => lq2 (s_X12_image_186 (fun (m36 : gMem) => lq2 (s_X12_image_212) 1000 (0 : Int32) m36)) 1000 (0 : Int32) m29) m1
  obtain ⟨m3, c1, c2, c3, cF, v7⟩ := m_im3' (fun (m36 : gMem) => lq2 (s_X12_image_212) 1000 (0 : Int32) m36) m2
  obtain ⟨m4, d1, d2, d3, dF, v8, v9, v10⟩ := m_im4' m3 (fun c hc => by
    simp (disch := omega) only [cF, bF, aF, gI_n, gI_y, gJ_n, gJ_y, gR_n, gR_y, gI_cn, gI_cy, gJ_sI, gR_sI, gI_sJ, gR_sJ, gI_sR, gJ_sR, gJ_cp, gR_cp, true_and, and_true, if_true, if_false, if_pos, if_neg]
    exact hb c hc)
  have k0 : gI m4 0 0 = gI m 0 0 := by simp (disch := omega) only [dF, cF, bF, aF, gI_n, gI_y, gJ_n, gJ_y, gR_n, gR_y, gI_cn, gI_cy, gJ_sI, gR_sI, gI_sJ, gR_sJ, gI_sR, gJ_sR, gJ_cp, gR_cp, true_and, and_true, if_true, if_false, if_pos, if_neg]
  refine ⟨m4, ?_, fun o c => ?_, fun o c => ?_, fun o c q => ?_, ?_, ?_, ?_, ?_, ?_, ?_, ?_, ?_, ?_, ?_, ?_, fun c hc => ?_, fun c hc => ?_, fun c hc => ?_, fun c hc => ?_, fun c hc => ?_, fun c hc => ?_, fun c hc => ?_, fun c hc => ?_, fun c hc => ?_, fun c hc => ?_⟩
  · rw [← k0, ← d1]
    refine Eq.trans ?_ c1
    refine Eq.trans ?_ b1
    refine Eq.trans ?_ a1
    unfold f_X12_image
    simp (disch := omega) only [lt1, jn, if_pos (show isB (1 : Int32) from Or.inr rfl), if_pos ha, gI_n, gI_y, gJ_n, gJ_y, gR_n, gR_y, gI_cn, gI_cy, gJ_sI, gR_sI, gI_sJ, gR_sJ, gI_sR, gJ_sR, gJ_cp, gR_cp, true_and, and_true, if_true, if_false, if_pos, if_neg]
  · rw [d2, c2, b2, a2]; rfl
  · rw [d3, c3, b3, a3]; rfl
  · simp (disch := omega) only [dF, cF, bF, aF, gI_n, gI_y, gJ_n, gJ_y, gR_n, gR_y, gI_cn, gI_cy, gJ_sI, gR_sI, gI_sJ, gR_sJ, gI_sR, gJ_sR, gJ_cp, gR_cp, true_and, and_true, if_true, if_false, if_pos, if_neg]
  · simp (disch := omega) only [dF, cF, bF, aF, gI_n, gI_y, gJ_n, gJ_y, gR_n, gR_y, gI_cn, gI_cy, gJ_sI, gR_sI, gI_sJ, gR_sJ, gI_sR, gJ_sR, gJ_cp, gR_cp, true_and, and_true, if_true, if_false, if_pos, if_neg]; rfl
  · simp (disch := omega) only [dF, cF, bF, aF, gI_n, gI_y, gJ_n, gJ_y, gR_n, gR_y, gI_cn, gI_cy, gJ_sI, gR_sI, gI_sJ, gR_sJ, gI_sR, gJ_sR, gJ_cp, gR_cp, true_and, and_true, if_true, if_false, if_pos, if_neg]
  · simp (disch := omega) only [dF, cF, bF, aF, gI_n, gI_y, gJ_n, gJ_y, gR_n, gR_y, gI_cn, gI_cy, gJ_sI, gR_sI, gI_sJ, gR_sJ, gI_sR, gJ_sR, gJ_cp, gR_cp, true_and, and_true, if_true, if_false, if_pos, if_neg]
  · simp (disch := omega) only [dF, cF, bF, aF, gI_n, gI_y, gJ_n, gJ_y, gR_n, gR_y, gI_cn, gI_cy, gJ_sI, gR_sI, gI_sJ, gR_sJ, gI_sR, gJ_sR, gJ_cp, gR_cp, true_and, and_true, if_true, if_false, if_pos, if_neg]
  · simp (disch := omega) only [dF, cF, bF, aF, gI_n, gI_y, gJ_n, gJ_y, gR_n, gR_y, gI_cn, gI_cy, gJ_sI, gR_sI, gI_sJ, gR_sJ, gI_sR, gJ_sR, gJ_cp, gR_cp, true_and, and_true, if_true, if_false, if_pos, if_neg]
  · simp (disch := omega) only [dF, cF, bF, aF, gI_n, gI_y, gJ_n, gJ_y, gR_n, gR_y, gI_cn, gI_cy, gJ_sI, gR_sI, gI_sJ, gR_sJ, gI_sR, gJ_sR, gJ_cp, gR_cp, true_and, and_true, if_true, if_false, if_pos, if_neg]
  · simp (disch := omega) only [dF, cF, bF, aF, gI_n, gI_y, gJ_n, gJ_y, gR_n, gR_y, gI_cn, gI_cy, gJ_sI, gR_sI, gI_sJ, gR_sJ, gI_sR, gJ_sR, gJ_cp, gR_cp, true_and, and_true, if_true, if_false, if_pos, if_neg]
  · simp (disch := omega) only [dF, cF, bF, aF, gI_n, gI_y, gJ_n, gJ_y, gR_n, gR_y, gI_cn, gI_cy, gJ_sI, gR_sI, gI_sJ, gR_sJ, gI_sR, gJ_sR, gJ_cp, gR_cp, true_and, and_true, if_true, if_false, if_pos, if_neg]
  · simp (disch := omega) only [dF, cF, bF, aF, gI_n, gI_y, gJ_n, gJ_y, gR_n, gR_y, gI_cn, gI_cy, gJ_sI, gR_sI, gI_sJ, gR_sJ, gI_sR, gJ_sR, gJ_cp, gR_cp, true_and, and_true, if_true, if_false, if_pos, if_neg]
  · simp (disch := omega) only [dF, cF, bF, aF, gI_n, gI_y, gJ_n, gJ_y, gR_n, gR_y, gI_cn, gI_cy, gJ_sI, gR_sI, gI_sJ, gR_sJ, gI_sR, gJ_sR, gJ_cp, gR_cp, true_and, and_true, if_true, if_false, if_pos, if_neg]
  · simp (disch := omega) only [dF, cF, bF, aF, gI_n, gI_y, gJ_n, gJ_y, gR_n, gR_y, gI_cn, gI_cy, gJ_sI, gR_sI, gI_sJ, gR_sJ, gI_sR, gJ_sR, gJ_cp, gR_cp, true_and, and_true, if_true, if_false, if_pos, if_neg]
  · simp (disch := omega) only [dF, cF, bF, aF, v1, gI_n, gI_y, gJ_n, gJ_y, gR_n, gR_y, gI_cn, gI_cy, gJ_sI, gR_sI, gI_sJ, gR_sJ, gI_sR, gJ_sR, gJ_cp, gR_cp, true_and, and_true, if_true, if_false, if_pos, if_neg]
  · simp (disch := omega) only [dF, cF, bF, aF, v2, gI_n, gI_y, gJ_n, gJ_y, gR_n, gR_y, gI_cn, gI_cy, gJ_sI, gR_sI, gI_sJ, gR_sJ, gI_sR, gJ_sR, gJ_cp, gR_cp, true_and, and_true, if_true, if_false, if_pos, if_neg]
  · simp (disch := omega) only [dF, cF, bF, aF, v3, gI_n, gI_y, gJ_n, gJ_y, gR_n, gR_y, gI_cn, gI_cy, gJ_sI, gR_sI, gI_sJ, gR_sJ, gI_sR, gJ_sR, gJ_cp, gR_cp, true_and, and_true, if_true, if_false, if_pos, if_neg]
  · simp (disch := omega) only [dF, cF, bF, aF, v4, gI_n, gI_y, gJ_n, gJ_y, gR_n, gR_y, gI_cn, gI_cy, gJ_sI, gR_sI, gI_sJ, gR_sJ, gI_sR, gJ_sR, gJ_cp, gR_cp, true_and, and_true, if_true, if_false, if_pos, if_neg]
  · simp (disch := omega) only [dF, cF, bF, aF, v5, gI_n, gI_y, gJ_n, gJ_y, gR_n, gR_y, gI_cn, gI_cy, gJ_sI, gR_sI, gI_sJ, gR_sJ, gI_sR, gJ_sR, gJ_cp, gR_cp, true_and, and_true, if_true, if_false, if_pos, if_neg]
  · simp (disch := omega) only [dF, cF, bF, aF, v6, gI_n, gI_y, gJ_n, gJ_y, gR_n, gR_y, gI_cn, gI_cy, gJ_sI, gR_sI, gI_sJ, gR_sJ, gI_sR, gJ_sR, gJ_cp, gR_cp, true_and, and_true, if_true, if_false, if_pos, if_neg]
  · simp (disch := omega) only [dF, cF, bF, aF, v7, gI_n, gI_y, gJ_n, gJ_y, gR_n, gR_y, gI_cn, gI_cy, gJ_sI, gR_sI, gI_sJ, gR_sJ, gI_sR, gJ_sR, gJ_cp, gR_cp, true_and, and_true, if_true, if_false, if_pos, if_neg]
  · simp (disch := omega) only [dF, cF, bF, aF, v8, gI_n, gI_y, gJ_n, gJ_y, gR_n, gR_y, gI_cn, gI_cy, gJ_sI, gR_sI, gI_sJ, gR_sJ, gI_sR, gJ_sR, gJ_cp, gR_cp, true_and, and_true, if_true, if_false, if_pos, if_neg]
  · simp (disch := omega) only [dF, cF, bF, aF, v9, gI_n, gI_y, gJ_n, gJ_y, gR_n, gR_y, gI_cn, gI_cy, gJ_sI, gR_sI, gI_sJ, gR_sJ, gI_sR, gJ_sR, gJ_cp, gR_cp, true_and, and_true, if_true, if_false, if_pos, if_neg]
  · simp (disch := omega) only [dF, cF, bF, aF, v10, gI_n, gI_y, gJ_n, gJ_y, gR_n, gR_y, gI_cn, gI_cy, gJ_sI, gR_sI, gI_sJ, gR_sJ, gI_sR, gJ_sR, gJ_cp, gR_cp, true_and, and_true, if_true, if_false, if_pos, if_neg]
theorem m_undo (m : gMem) (h47 : gI m 0 47 = nI 1) (ha : isB (gI m 0 48)) (hb : ∀ c, c < 6 → isB (gI m 34 c)) : ∃ m', f_X12_undo m = some (gI m 0 50, m') ∧ (∀ o c, gJ m' o c = gJ m o c) ∧ (∀ o c, gR m' o c = gR m o c) ∧ (∀ o c, ¬ ((o = 0 ∧ (c ≤ 5 ∨ c = 12 ∨ c = 30 ∨ c = 41 ∨ c = 45)) ∨ (1 ≤ o ∧ o ≤ 5) ∨ o = 16 ∨ (21 ≤ o ∧ o ≤ 24)) → gI m' o c = gI m o c) ∧ gI m' 0 5 = gI m 0 48 ∧ gI m' 0 12 = gI m 0 49 ∧ gI m' 0 0 = gI m 0 50 ∧ gI m' 0 1 = gI m 0 51 ∧ gI m' 0 2 = gI m 0 52 ∧ gI m' 0 3 = gI m 0 53 ∧ gI m' 0 4 = gI m 0 54 ∧ gI m' 0 30 = gI m 0 55 ∧ gI m' 0 41 = gI m 0 56 ∧ gI m' 0 45 = gI m 0 57 ∧ (∀ c, c < 12 → gI m' 1 c = gI m 25 c) ∧ (∀ c, c < 12 → gI m' 16 c = gI m 30 c) ∧ (∀ c, c < 12 → gI m' 24 c = gI m 33 c) ∧ (∀ c, c < 4 → gI m' 2 c = gI m 26 c) ∧ (∀ c, c < 4 → gI m' 3 c = gI m 27 c) ∧ (∀ c, c < 4 → gI m' 4 c = gI m 28 c) ∧ (∀ c, c < 16 → gI m' 5 c = gI m 29 c) ∧ (∀ c, c < 6 → gI m' 21 c = gI m 31 c) ∧ (∀ c, c < 6 → gI m' 22 c = gI m 32 c) ∧ ∀ c, c < 6 → gI m' 23 c = gI m 34 c := by
  obtain ⟨m1, a1, a2, a3, aF, v1, v2, v3⟩ := m_un1' (fun (m20 : gMem) => lq2 (s_X12_undo_142 (fun (m29 : gMem) => lq2 (s_X12_undo_191 (fun (m36 : gMem) => lq2 (s_X12_undo_217) 1000 (0 : Int32) m36)) 1000 (0 : Int32) m29)) 1000 (0 : Int32) m20) (gsI (gsI (gsI (gsI (gsI (gsI (gsI (gsI (gsI (gsI (m) 0 5 (gI m 0 48)) 0 12 (gI m 0 49)) 0 0 (gI m 0 50)) 0 1 (gI m 0 51)) 0 2 (gI m 0 52)) 0 3 (gI m 0 53)) 0 4 (gI m 0 54)) 0 30 (gI m 0 55)) 0 41 (gI m 0 56)) 0 45 (gI m 0 57))
  obtain ⟨m2, b1, b2, b3, bF, v4, v5, v6⟩ := m_un2' (fun (m29 : gMem) => lq2 (s_X12_undo_191 (fun (m36 : gMem) => lq2 (s_X12_undo_217) 1000 (0 : Int32) m36)) 1000 (0 : Int32) m29) m1
  obtain ⟨m3, c1, c2, c3, cF, v7⟩ := m_un3' (fun (m36 : gMem) => lq2 (s_X12_undo_217) 1000 (0 : Int32) m36) m2
  obtain ⟨m4, d1, d2, d3, dF, v8, v9, v10⟩ := m_un4' m3 (fun c hc => by
    simp (disch := omega) only [cF, bF, aF, gI_n, gI_y, gJ_n, gJ_y, gR_n, gR_y, gI_cn, gI_cy, gJ_sI, gR_sI, gI_sJ, gR_sJ, gI_sR, gJ_sR, gJ_cp, gR_cp, true_and, and_true, if_true, if_false, if_pos, if_neg]
    exact hb c hc)
  have k0 : gI m4 0 0 = gI m 0 50 := by simp (disch := omega) only [dF, cF, bF, aF, gI_n, gI_y, gJ_n, gJ_y, gR_n, gR_y, gI_cn, gI_cy, gJ_sI, gR_sI, gI_sJ, gR_sJ, gI_sR, gJ_sR, gJ_cp, gR_cp, true_and, and_true, if_true, if_false, if_pos, if_neg]
  refine ⟨m4, ?_, fun o c => ?_, fun o c => ?_, fun o c q => ?_, ?_, ?_, ?_, ?_, ?_, ?_, ?_, ?_, ?_, ?_, fun c hc => ?_, fun c hc => ?_, fun c hc => ?_, fun c hc => ?_, fun c hc => ?_, fun c hc => ?_, fun c hc => ?_, fun c hc => ?_, fun c hc => ?_, fun c hc => ?_⟩
  · rw [← k0, ← d1]
    refine Eq.trans ?_ c1
    refine Eq.trans ?_ b1
    refine Eq.trans ?_ a1
    unfold f_X12_undo
    simp (disch := omega) only [lt1, jn, h47, if_neg (show ¬ nI 1 = 0 by decide), if_pos ha, gI_n, gI_y, gJ_n, gJ_y, gR_n, gR_y, gI_cn, gI_cy, gJ_sI, gR_sI, gI_sJ, gR_sJ, gI_sR, gJ_sR, gJ_cp, gR_cp, true_and, and_true, if_true, if_false, if_pos, if_neg]
  · rw [d2, c2, b2, a2]; rfl
  · rw [d3, c3, b3, a3]; rfl
  · simp (disch := omega) only [dF, cF, bF, aF, gI_n, gI_y, gJ_n, gJ_y, gR_n, gR_y, gI_cn, gI_cy, gJ_sI, gR_sI, gI_sJ, gR_sJ, gI_sR, gJ_sR, gJ_cp, gR_cp, true_and, and_true, if_true, if_false, if_pos, if_neg]
  · simp (disch := omega) only [dF, cF, bF, aF, gI_n, gI_y, gJ_n, gJ_y, gR_n, gR_y, gI_cn, gI_cy, gJ_sI, gR_sI, gI_sJ, gR_sJ, gI_sR, gJ_sR, gJ_cp, gR_cp, true_and, and_true, if_true, if_false, if_pos, if_neg]
  · simp (disch := omega) only [dF, cF, bF, aF, gI_n, gI_y, gJ_n, gJ_y, gR_n, gR_y, gI_cn, gI_cy, gJ_sI, gR_sI, gI_sJ, gR_sJ, gI_sR, gJ_sR, gJ_cp, gR_cp, true_and, and_true, if_true, if_false, if_pos, if_neg]
  · simp (disch := omega) only [dF, cF, bF, aF, gI_n, gI_y, gJ_n, gJ_y, gR_n, gR_y, gI_cn, gI_cy, gJ_sI, gR_sI, gI_sJ, gR_sJ, gI_sR, gJ_sR, gJ_cp, gR_cp, true_and, and_true, if_true, if_false, if_pos, if_neg]
  · simp (disch := omega) only [dF, cF, bF, aF, gI_n, gI_y, gJ_n, gJ_y, gR_n, gR_y, gI_cn, gI_cy, gJ_sI, gR_sI, gI_sJ, gR_sJ, gI_sR, gJ_sR, gJ_cp, gR_cp, true_and, and_true, if_true, if_false, if_pos, if_neg]
  · simp (disch := omega) only [dF, cF, bF, aF, gI_n, gI_y, gJ_n, gJ_y, gR_n, gR_y, gI_cn, gI_cy, gJ_sI, gR_sI, gI_sJ, gR_sJ, gI_sR, gJ_sR, gJ_cp, gR_cp, true_and, and_true, if_true, if_false, if_pos, if_neg]
  · simp (disch := omega) only [dF, cF, bF, aF, gI_n, gI_y, gJ_n, gJ_y, gR_n, gR_y, gI_cn, gI_cy, gJ_sI, gR_sI, gI_sJ, gR_sJ, gI_sR, gJ_sR, gJ_cp, gR_cp, true_and, and_true, if_true, if_false, if_pos, if_neg]
  · simp (disch := omega) only [dF, cF, bF, aF, gI_n, gI_y, gJ_n, gJ_y, gR_n, gR_y, gI_cn, gI_cy, gJ_sI, gR_sI, gI_sJ, gR_sJ, gI_sR, gJ_sR, gJ_cp, gR_cp, true_and, and_true, if_true, if_false, if_pos, if_neg]
  · simp (disch := omega) only [dF, cF, bF, aF, gI_n, gI_y, gJ_n, gJ_y, gR_n, gR_y, gI_cn, gI_cy, gJ_sI, gR_sI, gI_sJ, gR_sJ, gI_sR, gJ_sR, gJ_cp, gR_cp, true_and, and_true, if_true, if_false, if_pos, if_neg]
  · simp (disch := omega) only [dF, cF, bF, aF, gI_n, gI_y, gJ_n, gJ_y, gR_n, gR_y, gI_cn, gI_cy, gJ_sI, gR_sI, gI_sJ, gR_sJ, gI_sR, gJ_sR, gJ_cp, gR_cp, true_and, and_true, if_true, if_false, if_pos, if_neg]
  · simp (disch := omega) only [dF, cF, bF, aF, gI_n, gI_y, gJ_n, gJ_y, gR_n, gR_y, gI_cn, gI_cy, gJ_sI, gR_sI, gI_sJ, gR_sJ, gI_sR, gJ_sR, gJ_cp, gR_cp, true_and, and_true, if_true, if_false, if_pos, if_neg]
  · simp (disch := omega) only [dF, cF, bF, aF, v1, gI_n, gI_y, gJ_n, gJ_y, gR_n, gR_y, gI_cn, gI_cy, gJ_sI, gR_sI, gI_sJ, gR_sJ, gI_sR, gJ_sR, gJ_cp, gR_cp, true_and, and_true, if_true, if_false, if_pos, if_neg]
  · simp (disch := omega) only [dF, cF, bF, aF, v2, gI_n, gI_y, gJ_n, gJ_y, gR_n, gR_y, gI_cn, gI_cy, gJ_sI, gR_sI, gI_sJ, gR_sJ, gI_sR, gJ_sR, gJ_cp, gR_cp, true_and, and_true, if_true, if_false, if_pos, if_neg]
  · simp (disch := omega) only [dF, cF, bF, aF, v3, gI_n, gI_y, gJ_n, gJ_y, gR_n, gR_y, gI_cn, gI_cy, gJ_sI, gR_sI, gI_sJ, gR_sJ, gI_sR, gJ_sR, gJ_cp, gR_cp, true_and, and_true, if_true, if_false, if_pos, if_neg]
  · simp (disch := omega) only [dF, cF, bF, aF, v4, gI_n, gI_y, gJ_n, gJ_y, gR_n, gR_y, gI_cn, gI_cy, gJ_sI, gR_sI, gI_sJ, gR_sJ, gI_sR, gJ_sR, gJ_cp, gR_cp, true_and, and_true, if_true, if_false, if_pos, if_neg]
  · simp (disch := omega) only [dF, cF, bF, aF, v5, gI_n, gI_y, gJ_n, gJ_y, gR_n, gR_y, gI_cn, gI_cy, gJ_sI, gR_sI, gI_sJ, gR_sJ, gI_sR, gJ_sR, gJ_cp, gR_cp, true_and, and_true, if_true, if_false, if_pos, if_neg]
  · simp (disch := omega) only [dF, cF, bF, aF, v6, gI_n, gI_y, gJ_n, gJ_y, gR_n, gR_y, gI_cn, gI_cy, gJ_sI, gR_sI, gI_sJ, gR_sJ, gI_sR, gJ_sR, gJ_cp, gR_cp, true_and, and_true, if_true, if_false, if_pos, if_neg]
  · simp (disch := omega) only [dF, cF, bF, aF, v7, gI_n, gI_y, gJ_n, gJ_y, gR_n, gR_y, gI_cn, gI_cy, gJ_sI, gR_sI, gI_sJ, gR_sJ, gI_sR, gJ_sR, gJ_cp, gR_cp, true_and, and_true, if_true, if_false, if_pos, if_neg]
  · simp (disch := omega) only [dF, cF, bF, aF, v8, gI_n, gI_y, gJ_n, gJ_y, gR_n, gR_y, gI_cn, gI_cy, gJ_sI, gR_sI, gI_sJ, gR_sJ, gI_sR, gJ_sR, gJ_cp, gR_cp, true_and, and_true, if_true, if_false, if_pos, if_neg]
  · simp (disch := omega) only [dF, cF, bF, aF, v9, gI_n, gI_y, gJ_n, gJ_y, gR_n, gR_y, gI_cn, gI_cy, gJ_sI, gR_sI, gI_sJ, gR_sJ, gI_sR, gJ_sR, gJ_cp, gR_cp, true_and, and_true, if_true, if_false, if_pos, if_neg]
  · simp (disch := omega) only [dF, cF, bF, aF, v10, gI_n, gI_y, gJ_n, gJ_y, gR_n, gR_y, gI_cn, gI_cy, gJ_sI, gR_sI, gI_sJ, gR_sJ, gI_sR, gJ_sR, gJ_cp, gR_cp, true_and, and_true, if_true, if_false, if_pos, if_neg]
end O7
