/-! image, undo -/
section O6
variable {L : List Nat} {W : Nat → Nat} {N : Nat → List cls} {x m x' m' : gMem}
theorem m_im1 (J : gMem → Option (Int32 × gMem)) : ∀ (d k fuel : Nat) (mm : gMem), d + k = 12 → d < fuel → ∃ m', lq2 (s_X12_image_87 J) fuel (nI k) mm = J m' ∧ (∀ o c, gJ m' o c = gJ mm o c) ∧ (∀ o c, gR m' o c = gR mm o c) ∧ ∀ o c, gI m' o c = if k ≤ c ∧ c < 12 then (if o = 25 then gI mm 1 c else if o = 30 then gI mm 16 c else if o = 33 then gI mm 24 c else gI mm o c) else gI mm o c
  | 0, k, fuel, mm, h1, h2 => by
    obtain ⟨f, rfl⟩ : ∃ f, fuel = f + 1 := ⟨fuel - 1, by omega⟩
    refine ⟨mm, ?_, fun _ _ => rfl, fun _ _ => rfl, fun o c => by rw [if_neg (by omega)]⟩
    rw [lq2_u]
    unfold s_X12_image_87
    simp (disch := omega) only [lt1, jn, bd_s, bd2_s, oc_s, oc_n, li0, li1, li2, li3, li4, li5, li6, li7, li8, li9, li10, li11, li12, li13, li14, li16, li20, li21, li22, li24, li30, li31, li33, li38, li39, li40, li41, li45, li48, li50, li51, li57, li58, li59, li60, li61, li62, li64, li70, li71, li72, li99, li100, li101, li104, li107, li109, li116, li120, li121, li124, li127, li128, li144, li255, li300, li360, li372, li396, li600, li999, li1000, li9960, li9990, li1000000, nI_1, nI_add, pk_sub, pk_mul, pk_div, rem_nI, i_lt, i_le, i_eq, okI, ix, isB, nI_clamp, nI_toInt, tneg, gI_sI, gR_sI, gJ_sI, gI_sR, gR_sR, gJ_sR, gI_sJ, gR_sJ, gJ_sJ, true_and, and_true, false_and, and_false, if_true, if_false, if_pos, if_neg]
  | d + 1, k, fuel, mm, h1, h2 => by
    obtain ⟨f, rfl⟩ : ∃ f, fuel = f + 1 := ⟨fuel - 1, by omega⟩
    obtain ⟨m', e1, e2, e3, e4⟩ := m_im1 J d (k + 1) f (gsI (gsI (gsI mm 25 k (gI mm 1 k)) 30 k (gI mm 16 k)) 33 k (gI mm 24 k)) (by omega) (by omega)
    refine ⟨m', ?_, e2, e3, fun o c => ?_⟩
    · rw [← e1, lq2_u]
      generalize lq2 (s_X12_image_87 J) f = F
      unfold s_X12_image_87
      simp (disch := omega) only [lt1, jn, bd_s, bd2_s, oc_s, oc_n, li0, li1, li2, li3, li4, li5, li6, li7, li8, li9, li10, li11, li12, li13, li14, li16, li20, li21, li22, li24, li30, li31, li33, li38, li39, li40, li41, li45, li48, li50, li51, li57, li58, li59, li60, li61, li62, li64, li70, li71, li72, li99, li100, li101, li104, li107, li109, li116, li120, li121, li124, li127, li128, li144, li255, li300, li360, li372, li396, li600, li999, li1000, li9960, li9990, li1000000, nI_1, nI_add, pk_sub, pk_mul, pk_div, rem_nI, i_lt, i_le, i_eq, okI, ix, isB, nI_clamp, nI_toInt, tneg, gI_sI, gR_sI, gJ_sI, gI_sR, gR_sR, gJ_sR, gI_sJ, gR_sJ, gJ_sJ, true_and, and_true, false_and, and_false, if_true, if_false, if_pos, if_neg]
    · rw [e4]
      by_cases h1 : c = k
      · subst h1
        by_cases h3 : o = 25
        · subst h3; simp (disch := omega) only [gI_sI, gJ_sI, gR_sI, gI_sJ, gJ_sJ, gR_sJ, gI_sR, gJ_sR, gR_sR, gI_cp, gJ_cp, gR_cp, true_and, and_true, if_true, if_false, if_pos, if_neg]
        by_cases h4 : o = 30
        · subst h4; simp (disch := omega) only [gI_sI, gJ_sI, gR_sI, gI_sJ, gJ_sJ, gR_sJ, gI_sR, gJ_sR, gR_sR, gI_cp, gJ_cp, gR_cp, true_and, and_true, if_true, if_false, if_pos, if_neg]
        by_cases h5 : o = 33
        · subst h5; simp (disch := omega) only [gI_sI, gJ_sI, gR_sI, gI_sJ, gJ_sJ, gR_sJ, gI_sR, gJ_sR, gR_sR, gI_cp, gJ_cp, gR_cp, true_and, and_true, if_true, if_false, if_pos, if_neg]
        simp (disch := omega) only [gI_sI, gJ_sI, gR_sI, gI_sJ, gJ_sJ, gR_sJ, gI_sR, gJ_sR, gR_sR, gI_cp, gJ_cp, gR_cp, true_and, and_true, if_true, if_false, if_pos, if_neg]
      · by_cases h2 : k + 1 ≤ c ∧ c < 12
        · by_cases h3 : o = 25
          · subst h3; simp (disch := omega) only [gI_sI, gJ_sI, gR_sI, gI_sJ, gJ_sJ, gR_sJ, gI_sR, gJ_sR, gR_sR, gI_cp, gJ_cp, gR_cp, true_and, and_true, if_true, if_false, if_pos, if_neg]
          by_cases h4 : o = 30
          · subst h4; simp (disch := omega) only [gI_sI, gJ_sI, gR_sI, gI_sJ, gJ_sJ, gR_sJ, gI_sR, gJ_sR, gR_sR, gI_cp, gJ_cp, gR_cp, true_and, and_true, if_true, if_false, if_pos, if_neg]
          by_cases h5 : o = 33
          · subst h5; simp (disch := omega) only [gI_sI, gJ_sI, gR_sI, gI_sJ, gJ_sJ, gR_sJ, gI_sR, gJ_sR, gR_sR, gI_cp, gJ_cp, gR_cp, true_and, and_true, if_true, if_false, if_pos, if_neg]
          simp (disch := omega) only [gI_sI, gJ_sI, gR_sI, gI_sJ, gJ_sJ, gR_sJ, gI_sR, gJ_sR, gR_sR, gI_cp, gJ_cp, gR_cp, true_and, and_true, if_true, if_false, if_pos, if_neg]
        · simp (disch := omega) only [gI_sI, gJ_sI, gR_sI, gI_sJ, gJ_sJ, gR_sJ, gI_sR, gJ_sR, gR_sR, gI_cp, gJ_cp, gR_cp, true_and, and_true, if_true, if_false, if_pos, if_neg]
theorem m_im2 (J : gMem → Option (Int32 × gMem)) : ∀ (d k fuel : Nat) (mm : gMem), d + k = 4 → d < fuel → ∃ m', lq2 (s_X12_image_137 J) fuel (nI k) mm = J m' ∧ (∀ o c, gJ m' o c = gJ mm o c) ∧ (∀ o c, gR m' o c = gR mm o c) ∧ ∀ o c, gI m' o c = if k ≤ c ∧ c < 4 then (if o = 26 then gI mm 2 c else if o = 27 then gI mm 3 c else if o = 28 then gI mm 4 c else gI mm o c) else gI mm o c
  | 0, k, fuel, mm, h1, h2 => by
    obtain ⟨f, rfl⟩ : ∃ f, fuel = f + 1 := ⟨fuel - 1, by omega⟩
    refine ⟨mm, ?_, fun _ _ => rfl, fun _ _ => rfl, fun o c => by rw [if_neg (by omega)]⟩
    rw [lq2_u]
    unfold s_X12_image_137
    simp (disch := omega) only [lt1, jn, bd_s, bd2_s, oc_s, oc_n, li0, li1, li2, li3, li4, li5, li6, li7, li8, li9, li10, li11, li12, li13, li14, li16, li20, li21, li22, li24, li30, li31, li33, li38, li39, li40, li41, li45, li48, li50, li51, li57, li58, li59, li60, li61, li62, li64, li70, li71, li72, li99, li100, li101, li104, li107, li109, li116, li120, li121, li124, li127, li128, li144, li255, li300, li360, li372, li396, li600, li999, li1000, li9960, li9990, li1000000, nI_1, nI_add, pk_sub, pk_mul, pk_div, rem_nI, i_lt, i_le, i_eq, okI, ix, isB, nI_clamp, nI_toInt, tneg, gI_sI, gR_sI, gJ_sI, gI_sR, gR_sR, gJ_sR, gI_sJ, gR_sJ, gJ_sJ, true_and, and_true, false_and, and_false, if_true, if_false, if_pos, if_neg]
  | d + 1, k, fuel, mm, h1, h2 => by
    obtain ⟨f, rfl⟩ : ∃ f, fuel = f + 1 := ⟨fuel - 1, by omega⟩
    obtain ⟨m', e1, e2, e3, e4⟩ := m_im2 J d (k + 1) f (gsI (gsI (gsI mm 26 k (gI mm 2 k)) 27 k (gI mm 3 k)) 28 k (gI mm 4 k)) (by omega) (by omega)
    refine ⟨m', ?_, e2, e3, fun o c => ?_⟩
    · rw [← e1, lq2_u]
      generalize lq2 (s_X12_image_137 J) f = F
      unfold s_X12_image_137
      simp (disch := omega) only [lt1, jn, bd_s, bd2_s, oc_s, oc_n, li0, li1, li2, li3, li4, li5, li6, li7, li8, li9, li10, li11, li12, li13, li14, li16, li20, li21, li22, li24, li30, li31, li33, li38, li39, li40, li41, li45, li48, li50, li51, li57, li58, li59, li60, li61, li62, li64, li70, li71, li72, li99, li100, li101, li104, li107, li109, li116, li120, li121, li124, li127, li128, li144, li255, li300, li360, li372, li396, li600, li999, li1000, li9960, li9990, li1000000, nI_1, nI_add, pk_sub, pk_mul, pk_div, rem_nI, i_lt, i_le, i_eq, okI, ix, isB, nI_clamp, nI_toInt, tneg, gI_sI, gR_sI, gJ_sI, gI_sR, gR_sR, gJ_sR, gI_sJ, gR_sJ, gJ_sJ, true_and, and_true, false_and, and_false, if_true, if_false, if_pos, if_neg]
    · rw [e4]
      by_cases h1 : c = k
      · subst h1
        by_cases h3 : o = 26
        · subst h3; simp (disch := omega) only [gI_sI, gJ_sI, gR_sI, gI_sJ, gJ_sJ, gR_sJ, gI_sR, gJ_sR, gR_sR, gI_cp, gJ_cp, gR_cp, true_and, and_true, if_true, if_false, if_pos, if_neg]
        by_cases h4 : o = 27
        · subst h4; simp (disch := omega) only [gI_sI, gJ_sI, gR_sI, gI_sJ, gJ_sJ, gR_sJ, gI_sR, gJ_sR, gR_sR, gI_cp, gJ_cp, gR_cp, true_and, and_true, if_true, if_false, if_pos, if_neg]
        by_cases h5 : o = 28
        · subst h5; simp (disch := omega) only [gI_sI, gJ_sI, gR_sI, gI_sJ, gJ_sJ, gR_sJ, gI_sR, gJ_sR, gR_sR, gI_cp, gJ_cp, gR_cp, true_and, and_true, if_true, if_false, if_pos, if_neg]
        simp (disch := omega) only [gI_sI, gJ_sI, gR_sI, gI_sJ, gJ_sJ, gR_sJ, gI_sR, gJ_sR, gR_sR, gI_cp, gJ_cp, gR_cp, true_and, and_true, if_true, if_false, if_pos, if_neg]
      · by_cases h2 : k + 1 ≤ c ∧ c < 4
        · by_cases h3 : o = 26
          · subst h3; simp (disch := omega) only [gI_sI, gJ_sI, gR_sI, gI_sJ, gJ_sJ, gR_sJ, gI_sR, gJ_sR, gR_sR, gI_cp, gJ_cp, gR_cp, true_and, and_true, if_true, if_false, if_pos, if_neg]
          by_cases h4 : o = 27
          · subst h4; simp (disch := omega) only [gI_sI, gJ_sI, gR_sI, gI_sJ, gJ_sJ, gR_sJ, gI_sR, gJ_sR, gR_sR, gI_cp, gJ_cp, gR_cp, true_and, and_true, if_true, if_false, if_pos, if_neg]
          by_cases h5 : o = 28
          · subst h5; simp (disch := omega) only [gI_sI, gJ_sI, gR_sI, gI_sJ, gJ_sJ, gR_sJ, gI_sR, gJ_sR, gR_sR, gI_cp, gJ_cp, gR_cp, true_and, and_true, if_true, if_false, if_pos, if_neg]
          simp (disch := omega) only [gI_sI, gJ_sI, gR_sI, gI_sJ, gJ_sJ, gR_sJ, gI_sR, gJ_sR, gR_sR, gI_cp, gJ_cp, gR_cp, true_and, and_true, if_true, if_false, if_pos, if_neg]
        · simp (disch := omega) only [gI_sI, gJ_sI, gR_sI, gI_sJ, gJ_sJ, gR_sJ, gI_sR, gJ_sR, gR_sR, gI_cp, gJ_cp, gR_cp, true_and, and_true, if_true, if_false, if_pos, if_neg]
theorem m_im3 (J : gMem → Option (Int32 × gMem)) : ∀ (d k fuel : Nat) (mm : gMem), d + k = 16 → d < fuel → ∃ m', lq2 (s_X12_image_186 J) fuel (nI k) mm = J m' ∧ (∀ o c, gJ m' o c = gJ mm o c) ∧ (∀ o c, gR m' o c = gR mm o c) ∧ ∀ o c, gI m' o c = if k ≤ c ∧ c < 16 then (if o = 29 then gI mm 5 c else gI mm o c) else gI mm o c
  | 0, k, fuel, mm, h1, h2 => by
    obtain ⟨f, rfl⟩ : ∃ f, fuel = f + 1 := ⟨fuel - 1, by omega⟩
    refine ⟨mm, ?_, fun _ _ => rfl, fun _ _ => rfl, fun o c => by rw [if_neg (by omega)]⟩
    rw [lq2_u]
    unfold s_X12_image_186
    simp (disch := omega) only [lt1, jn, bd_s, bd2_s, oc_s, oc_n, li0, li1, li2, li3, li4, li5, li6, li7, li8, li9, li10, li11, li12, li13, li14, li16, li20, li21, li22, li24, li30, li31, li33, li38, li39, li40, li41, li45, li48, li50, li51, li57, li58, li59, li60, li61, li62, li64, li70, li71, li72, li99, li100, li101, li104, li107, li109, li116, li120, li121, li124, li127, li128, li144, li255, li300, li360, li372, li396, li600, li999, li1000, li9960, li9990, li1000000, nI_1, nI_add, pk_sub, pk_mul, pk_div, rem_nI, i_lt, i_le, i_eq, okI, ix, isB, nI_clamp, nI_toInt, tneg, gI_sI, gR_sI, gJ_sI, gI_sR, gR_sR, gJ_sR, gI_sJ, gR_sJ, gJ_sJ, true_and, and_true, false_and, and_false, if_true, if_false, if_pos, if_neg]
  | d + 1, k, fuel, mm, h1, h2 => by
    obtain ⟨f, rfl⟩ : ∃ f, fuel = f + 1 := ⟨fuel - 1, by omega⟩
    obtain ⟨m', e1, e2, e3, e4⟩ := m_im3 J d (k + 1) f (gsI mm 29 k (gI mm 5 k)) (by omega) (by omega)
    refine ⟨m', ?_, e2, e3, fun o c => ?_⟩
    · rw [← e1, lq2_u]
      generalize lq2 (s_X12_image_186 J) f = F
      unfold s_X12_image_186
      simp (disch := omega) only [lt1, jn, bd_s, bd2_s, oc_s, oc_n, li0, li1, li2, li3, li4, li5, li6, li7, li8, li9, li10, li11, li12, li13, li14, li16, li20, li21, li22, li24, li30, li31, li33, li38, li39, li40, li41, li45, li48, li50, li51, li57, li58, li59, li60, li61, li62, li64, li70, li71, li72, li99, li100, li101, li104, li107, li109, li116, li120, li121, li124, li127, li128, li144, li255, li300, li360, li372, li396, li600, li999, li1000, li9960, li9990, li1000000, nI_1, nI_add, pk_sub, pk_mul, pk_div, rem_nI, i_lt, i_le, i_eq, okI, ix, isB, nI_clamp, nI_toInt, tneg, gI_sI, gR_sI, gJ_sI, gI_sR, gR_sR, gJ_sR, gI_sJ, gR_sJ, gJ_sJ, true_and, and_true, false_and, and_false, if_true, if_false, if_pos, if_neg]
    · rw [e4]
      by_cases h1 : c = k
      · subst h1
        by_cases h3 : o = 29
        · subst h3; simp (disch := omega) only [gI_sI, gJ_sI, gR_sI, gI_sJ, gJ_sJ, gR_sJ, gI_sR, gJ_sR, gR_sR, gI_cp, gJ_cp, gR_cp, true_and, and_true, if_true, if_false, if_pos, if_neg]
        simp (disch := omega) only [gI_sI, gJ_sI, gR_sI, gI_sJ, gJ_sJ, gR_sJ, gI_sR, gJ_sR, gR_sR, gI_cp, gJ_cp, gR_cp, true_and, and_true, if_true, if_false, if_pos, if_neg]
      · by_cases h2 : k + 1 ≤ c ∧ c < 16
        · by_cases h3 : o = 29
          · subst h3; simp (disch := omega) only [gI_sI, gJ_sI, gR_sI, gI_sJ, gJ_sJ, gR_sJ, gI_sR, gJ_sR, gR_sR, gI_cp, gJ_cp, gR_cp, true_and, and_true, if_true, if_false, if_pos, if_neg]
          simp (disch := omega) only [gI_sI, gJ_sI, gR_sI, gI_sJ, gJ_sJ, gR_sJ, gI_sR, gJ_sR, gR_sR, gI_cp, gJ_cp, gR_cp, true_and, and_true, if_true, if_false, if_pos, if_neg]
        · simp (disch := omega) only [gI_sI, gJ_sI, gR_sI, gI_sJ, gJ_sJ, gR_sJ, gI_sR, gJ_sR, gR_sR, gI_cp, gJ_cp, gR_cp, true_and, and_true, if_true, if_false, if_pos, if_neg]
theorem m_im4 : ∀ (d k fuel : Nat) (mm : gMem), d + k = 6 → d < fuel → ∃ m', lq2 (s_X12_image_212) fuel (nI k) mm = some (gI m' 0 0, m') ∧ (∀ o c, gJ m' o c = gJ mm o c) ∧ (∀ o c, gR m' o c = gR mm o c) ∧ ∀ o c, gI m' o c = if k ≤ c ∧ c < 6 then (if o = 31 then gI mm 21 c else if o = 32 then gI mm 22 c else if o = 34 then vp_nar .boolean (gI mm 23 c) else gI mm o c) else gI mm o c
  | 0, k, fuel, mm, h1, h2 => by
    obtain ⟨f, rfl⟩ : ∃ f, fuel = f + 1 := ⟨fuel - 1, by omega⟩
    refine ⟨mm, ?_, fun _ _ => rfl, fun _ _ => rfl, fun o c => by rw [if_neg (by omega)]⟩
    rw [lq2_u]
    unfold s_X12_image_212
    simp (disch := omega) only [lt1, jn, bd_s, bd2_s, oc_s, oc_n, li0, li1, li2, li3, li4, li5, li6, li7, li8, li9, li10, li11, li12, li13, li14, li16, li20, li21, li22, li24, li30, li31, li33, li38, li39, li40, li41, li45, li48, li50, li51, li57, li58, li59, li60, li61, li62, li64, li70, li71, li72, li99, li100, li101, li104, li107, li109, li116, li120, li121, li124, li127, li128, li144, li255, li300, li360, li372, li396, li600, li999, li1000, li9960, li9990, li1000000, nI_1, nI_add, pk_sub, pk_mul, pk_div, rem_nI, i_lt, i_le, i_eq, okI, ix, isB, nI_clamp, nI_toInt, tneg, gI_sI, gR_sI, gJ_sI, gI_sR, gR_sR, gJ_sR, gI_sJ, gR_sJ, gJ_sJ, true_and, and_true, false_and, and_false, if_true, if_false, if_pos, if_neg]
  | d + 1, k, fuel, mm, h1, h2 => by
    obtain ⟨f, rfl⟩ : ∃ f, fuel = f + 1 := ⟨fuel - 1, by omega⟩
    obtain ⟨m', e1, e2, e3, e4⟩ := m_im4 d (k + 1) f (gsI (gsI (gsI mm 31 k (gI mm 21 k)) 32 k (gI mm 22 k)) 34 k (vp_nar .boolean (gI mm 23 k))) (by omega) (by omega)
    refine ⟨m', ?_, e2, e3, fun o c => ?_⟩
    · rw [← e1, lq2_u]
      generalize lq2 (s_X12_image_212) f = F
      unfold s_X12_image_212
      simp (disch := omega) only [lt1, jn, bd_s, bd2_s, oc_s, oc_n, li0, li1, li2, li3, li4, li5, li6, li7, li8, li9, li10, li11, li12, li13, li14, li16, li20, li21, li22, li24, li30, li31, li33, li38, li39, li40, li41, li45, li48, li50, li51, li57, li58, li59, li60, li61, li62, li64, li70, li71, li72, li99, li100, li101, li104, li107, li109, li116, li120, li121, li124, li127, li128, li144, li255, li300, li360, li372, li396, li600, li999, li1000, li9960, li9990, li1000000, nI_1, nI_add, pk_sub, pk_mul, pk_div, rem_nI, i_lt, i_le, i_eq, okI, ix, isB, nI_clamp, nI_toInt, tneg, gI_sI, gR_sI, gJ_sI, gI_sR, gR_sR, gJ_sR, gI_sJ, gR_sJ, gJ_sJ, true_and, and_true, false_and, and_false, if_true, if_false, if_pos, if_neg]
    · rw [e4]
      by_cases h1 : c = k
      · subst h1
        by_cases h3 : o = 31
        · subst h3; simp (disch := omega) only [gI_sI, gJ_sI, gR_sI, gI_sJ, gJ_sJ, gR_sJ, gI_sR, gJ_sR, gR_sR, gI_cp, gJ_cp, gR_cp, true_and, and_true, if_true, if_false, if_pos, if_neg]
        by_cases h4 : o = 32
        · subst h4; simp (disch := omega) only [gI_sI, gJ_sI, gR_sI, gI_sJ, gJ_sJ, gR_sJ, gI_sR, gJ_sR, gR_sR, gI_cp, gJ_cp, gR_cp, true_and, and_true, if_true, if_false, if_pos, if_neg]
        by_cases h5 : o = 34
        · subst h5; simp (disch := omega) only [gI_sI, gJ_sI, gR_sI, gI_sJ, gJ_sJ, gR_sJ, gI_sR, gJ_sR, gR_sR, gI_cp, gJ_cp, gR_cp, true_and, and_true, if_true, if_false, if_pos, if_neg]
        simp (disch := omega) only [gI_sI, gJ_sI, gR_sI, gI_sJ, gJ_sJ, gR_sJ, gI_sR, gJ_sR, gR_sR, gI_cp, gJ_cp, gR_cp, true_and, and_true, if_true, if_false, if_pos, if_neg]
      · by_cases h2 : k + 1 ≤ c ∧ c < 6
        · by_cases h3 : o = 31
          · subst h3; simp (disch := omega) only [gI_sI, gJ_sI, gR_sI, gI_sJ, gJ_sJ, gR_sJ, gI_sR, gJ_sR, gR_sR, gI_cp, gJ_cp, gR_cp, true_and, and_true, if_true, if_false, if_pos, if_neg]
          by_cases h4 : o = 32
          · subst h4; simp (disch := omega) only [gI_sI, gJ_sI, gR_sI, gI_sJ, gJ_sJ, gR_sJ, gI_sR, gJ_sR, gR_sR, gI_cp, gJ_cp, gR_cp, true_and, and_true, if_true, if_false, if_pos, if_neg]
          by_cases h5 : o = 34
          · subst h5; simp (disch := omega) only [gI_sI, gJ_sI, gR_sI, gI_sJ, gJ_sJ, gR_sJ, gI_sR, gJ_sR, gR_sR, gI_cp, gJ_cp, gR_cp, true_and, and_true, if_true, if_false, if_pos, if_neg]
          simp (disch := omega) only [gI_sI, gJ_sI, gR_sI, gI_sJ, gJ_sJ, gR_sJ, gI_sR, gJ_sR, gR_sR, gI_cp, gJ_cp, gR_cp, true_and, and_true, if_true, if_false, if_pos, if_neg]
        · simp (disch := omega) only [gI_sI, gJ_sI, gR_sI, gI_sJ, gJ_sJ, gR_sJ, gI_sR, gJ_sR, gR_sR, gI_cp, gJ_cp, gR_cp, true_and, and_true, if_true, if_false, if_pos, if_neg]
/-- keep, of one -/
theorem x_keep {w : Nat} (hk : wkd w < 7) (hw : 128 ≤ w) (h4 : w % 4 = 0) (mm : gMem) : ∃ m', d_keep L mm w = some m' ∧ (∀ o c, gJ m' o c = gJ mm o c) ∧ (∀ o c, gR m' o c = gR mm o c) ∧ (∀ o c, ¬ ((o = w ∧ c = 3) ∨ (o = w + 3 ∧ c < 4)) → gI m' o c = gI mm o c) ∧ gI m' w 3 = gI mm w 2 ∧ (wkd w = 6 → ∀ j, j < 4 → gI m' (w + 3) j = gI mm (w + 2) j) := by
  by_cases h6 : wkd w = 6
  · refine ⟨gcp (gsI mm w 3 (gI mm w 2)) (w + 2) (w + 3) 4, ?_, fun _ _ => rfl, fun _ _ => rfl, fun o c q => ?_, ?_, fun _ j hj => ?_⟩
    · unfold d_keep f_X8_keep f_X9_keep
      simp (disch := omega) only [if_neg, lt1, bd_s]
    · simp (disch := omega) only [gI_sI, gJ_sI, gR_sI, gI_sJ, gJ_sJ, gR_sJ, gI_sR, gJ_sR, gR_sR, gI_cp, gJ_cp, gR_cp, true_and, and_true, if_true, if_false, if_pos, if_neg]
    · simp (disch := omega) only [gI_sI, gJ_sI, gR_sI, gI_sJ, gJ_sJ, gR_sJ, gI_sR, gJ_sR, gR_sR, gI_cp, gJ_cp, gR_cp, true_and, and_true, if_true, if_false, if_pos, if_neg]
    · simp (disch := omega) only [gI_sI, gJ_sI, gR_sI, gI_sJ, gJ_sJ, gR_sJ, gI_sR, gJ_sR, gR_sR, gI_cp, gJ_cp, gR_cp, true_and, and_true, if_true, if_false, if_pos, if_neg]
  · refine ⟨gsI mm w 3 (gI mm w 2), ?_, fun _ _ => rfl, fun _ _ => rfl, fun o c q => ?_, ?_, fun h => absurd h h6⟩
    · unfold d_keep f_X9_keep
      simp only [lt1]
      generalize wkd w = k at hk h6
      exact kin (P := fun k => k ≠ 6 → (if k = 0 then some (gsI mm w 3 (gI mm w 2)) else if k = 1 then some (gsI mm w 3 (gI mm w 2)) else if k = 2 then some (gsI mm w 3 (gI mm w 2)) else if k = 3 then some (gsI mm w 3 (gI mm w 2)) else if k = 4 then some (gsI mm w 3 (gI mm w 2)) else if k = 5 then some (gsI mm w 3 (gI mm w 2)) else f_X8_keep L mm w) = some (gsI mm w 3 (gI mm w 2))) hk (fun _ => rfl) (fun _ => rfl) (fun _ => rfl) (fun _ => rfl) (fun _ => rfl) (fun _ => rfl) (fun h => absurd rfl h) h6
    · simp (disch := omega) only [gI_sI, gJ_sI, gR_sI, gI_sJ, gJ_sJ, gR_sJ, gI_sR, gJ_sR, gR_sR, gI_cp, gJ_cp, gR_cp, true_and, and_true, if_true, if_false, if_pos, if_neg]
    · simp (disch := omega) only [gI_sI, gJ_sI, gR_sI, gI_sJ, gJ_sJ, gR_sJ, gI_sR, gJ_sR, gR_sR, gI_cp, gJ_cp, gR_cp, true_and, and_true, if_true, if_false, if_pos, if_neg]
theorem x_goBack {w : Nat} (hk : wkd w < 7) (hw : 128 ≤ w) (h4 : w % 4 = 0) (mm : gMem) : ∃ m', d_goBack L mm w = some m' ∧ (∀ o c, gJ m' o c = gJ mm o c) ∧ (∀ o c, gR m' o c = gR mm o c) ∧ (∀ o c, ¬ ((o = w ∧ c = 2) ∨ (o = w + 2 ∧ c < 4)) → gI m' o c = gI mm o c) ∧ gI m' w 2 = gI mm w 3 ∧ (wkd w = 6 → ∀ j, j < 4 → gI m' (w + 2) j = gI mm (w + 3) j) := by
  by_cases h6 : wkd w = 6
  · refine ⟨gcp (gsI mm w 2 (gI mm w 3)) (w + 3) (w + 2) 4, ?_, fun _ _ => rfl, fun _ _ => rfl, fun o c q => ?_, ?_, fun _ j hj => ?_⟩
    · unfold d_goBack f_X8_goBack f_X9_goBack
      simp (disch := omega) only [if_neg, lt1, bd_s]
    · simp (disch := omega) only [gI_sI, gJ_sI, gR_sI, gI_sJ, gJ_sJ, gR_sJ, gI_sR, gJ_sR, gR_sR, gI_cp, gJ_cp, gR_cp, true_and, and_true, if_true, if_false, if_pos, if_neg]
    · simp (disch := omega) only [gI_sI, gJ_sI, gR_sI, gI_sJ, gJ_sJ, gR_sJ, gI_sR, gJ_sR, gR_sR, gI_cp, gJ_cp, gR_cp, true_and, and_true, if_true, if_false, if_pos, if_neg]
    · simp (disch := omega) only [gI_sI, gJ_sI, gR_sI, gI_sJ, gJ_sJ, gR_sJ, gI_sR, gJ_sR, gR_sR, gI_cp, gJ_cp, gR_cp, true_and, and_true, if_true, if_false, if_pos, if_neg]
  · refine ⟨gsI mm w 2 (gI mm w 3), ?_, fun _ _ => rfl, fun _ _ => rfl, fun o c q => ?_, ?_, fun h => absurd h h6⟩
    · unfold d_goBack f_X9_goBack
      simp only [lt1]
      generalize wkd w = k at hk h6
      exact kin (P := fun k => k ≠ 6 → (if k = 0 then some (gsI mm w 2 (gI mm w 3)) else if k = 1 then some (gsI mm w 2 (gI mm w 3)) else if k = 2 then some (gsI mm w 2 (gI mm w 3)) else if k = 3 then some (gsI mm w 2 (gI mm w 3)) else if k = 4 then some (gsI mm w 2 (gI mm w 3)) else if k = 5 then some (gsI mm w 2 (gI mm w 3)) else f_X8_goBack L mm w) = some (gsI mm w 2 (gI mm w 3))) hk (fun _ => rfl) (fun _ => rfl) (fun _ => rfl) (fun _ => rfl) (fun _ => rfl) (fun _ => rfl) (fun h => absurd rfl h) h6
    · simp (disch := omega) only [gI_sI, gJ_sI, gR_sI, gI_sJ, gJ_sJ, gR_sJ, gI_sR, gJ_sR, gR_sR, gI_cp, gJ_cp, gR_cp, true_and, and_true, if_true, if_false, if_pos, if_neg]
    · simp (disch := omega) only [gI_sI, gJ_sI, gR_sI, gI_sJ, gJ_sJ, gR_sJ, gI_sR, gJ_sR, gR_sR, gI_cp, gJ_cp, gR_cp, true_and, and_true, if_true, if_false, if_pos, if_neg]
theorem x_findN {n i : Nat} (hn : n ≤ 4) (hi : i < n) (e : gI x 10 3 = nI n) (r : gR x 1 i = some (W i)) : f_X11_find L x (nI i) = some (some (W i)) := by
  unfold f_X11_find
  simp (disch := omega) only [lt1, jn, bd_s, bd2_s, oc_s, oc_n, li0, li1, li2, li3, li4, li5, li6, li7, li8, li9, li10, li11, li12, li13, li14, li16, li20, li21, li22, li24, li30, li31, li33, li38, li39, li40, li41, li45, li48, li50, li51, li57, li58, li59, li60, li61, li62, li64, li70, li71, li72, li99, li100, li101, li104, li107, li109, li116, li120, li121, li124, li127, li128, li144, li255, li300, li360, li372, li396, li600, li999, li1000, li9960, li9990, li1000000, nI_1, nI_add, pk_sub, pk_mul, pk_div, rem_nI, i_lt, i_le, i_eq, okI, ix, isB, nI_clamp, nI_toInt, tneg, gI_sI, gR_sI, gJ_sI, gI_sR, gR_sR, gJ_sR, gI_sJ, gR_sJ, gJ_sJ, true_and, and_true, false_and, and_false, if_true, if_false, if_pos, if_neg, e, r]
/-- all the walkers of THE IMAGE keep -/
theorem x_im {n : Nat} (hn : n ≤ 4) (hw : ∀ i, i < n → wok L (W i)) (hinj : ∀ i j, i < n → j < n → W i = W j → i = j) : ∀ (d k fuel : Nat) (mm : gMem), gI mm 10 3 = nI n → gI mm 20 3 = nI n → (∀ i, i < n → gR mm 1 i = some (W i)) → d + k = n → d < fuel → ∃ m', lq2 (s_X11_image_18 L) fuel (nI k) mm = some (nI n, m') ∧ (∀ o c, gJ m' o c = gJ mm o c) ∧ (∀ o c, gR m' o c = gR mm o c) ∧ (∀ o c, ¬ (128 ≤ o ∧ (o % 4 = 0 ∧ c = 3 ∨ o % 4 = 3)) → gI m' o c = gI mm o c) ∧ (∀ i, i < n → i < k → gI m' (W i) 3 = gI mm (W i) 3 ∧ ∀ j, gI m' (W i + 3) j = gI mm (W i + 3) j) ∧ (∀ i, i < n → k ≤ i → gI m' (W i) 3 = gI mm (W i) 2 ∧ (wkd (W i) = 6 → ∀ j, j < 4 → gI m' (W i + 3) j = gI mm (W i + 2) j))
  | 0, k, fuel, mm, g1, g2, g3, h1, h2 => by
    obtain ⟨f, rfl⟩ : ∃ f, fuel = f + 1 := ⟨fuel - 1, by omega⟩
    refine ⟨mm, ?_, fun _ _ => rfl, fun _ _ => rfl, fun _ _ _ => rfl, fun _ _ _ => ⟨rfl, fun _ => rfl⟩, fun i a b => by omega⟩
    rw [lq2_u]
    unfold s_X11_image_18
    simp (disch := omega) only [lt1, jn, bd_s, bd2_s, oc_s, oc_n, li0, li1, li2, li3, li4, li5, li6, li7, li8, li9, li10, li11, li12, li13, li14, li16, li20, li21, li22, li24, li30, li31, li33, li38, li39, li40, li41, li45, li48, li50, li51, li57, li58, li59, li60, li61, li62, li64, li70, li71, li72, li99, li100, li101, li104, li107, li109, li116, li120, li121, li124, li127, li128, li144, li255, li300, li360, li372, li396, li600, li999, li1000, li9960, li9990, li1000000, nI_1, nI_add, pk_sub, pk_mul, pk_div, rem_nI, i_lt, i_le, i_eq, okI, ix, isB, nI_clamp, nI_toInt, tneg, gI_sI, gR_sI, gJ_sI, gI_sR, gR_sR, gJ_sR, gI_sJ, gR_sJ, gJ_sJ, true_and, and_true, false_and, and_false, if_true, if_false, if_pos, if_neg, g2]
  | d + 1, k, fuel, mm, g1, g2, g3, h1, h2 => by
    obtain ⟨f, rfl⟩ : ∃ f, fuel = f + 1 := ⟨fuel - 1, by omega⟩
    have hk : k < n := by omega
    obtain ⟨q1, q2, q3, q4⟩ := hw k hk
    obtain ⟨m1, a1, a2, a3, a4, a5, a6⟩ := x_keep (L := L) q3 q1 q2 mm
    obtain ⟨m', e1, e2, e3, e4, e5, e6⟩ := x_im hn hw hinj d (k + 1) f m1 ((a4 _ _ (by omega)).trans g1) ((a4 _ _ (by omega)).trans g2) (fun i hi => (a3 _ _).trans (g3 i hi)) (by omega) (by omega)
    refine ⟨m', ?_, fun o c => (e2 o c).trans (a2 o c), fun o c => (e3 o c).trans (a3 o c), fun o c q => (e4 o c q).trans (a4 o c (by omega)), fun i hi hik => ?_, fun i hi hik => ?_⟩
    · rw [← e1, lq2_u]
      generalize lq2 (s_X11_image_18 L) f = F
      unfold s_X11_image_18
      rw [x_findN hn hk g1 (g3 k hk)]
      have hW := eq_true (hw k hk)
      simp (disch := omega) only [lt1, jn, bd_s, bd2_s, oc_s, oc_n, li0, li1, li2, li3, li4, li5, li6, li7, li8, li9, li10, li11, li12, li13, li14, li16, li20, li21, li22, li24, li30, li31, li33, li38, li39, li40, li41, li45, li48, li50, li51, li57, li58, li59, li60, li61, li62, li64, li70, li71, li72, li99, li100, li101, li104, li107, li109, li116, li120, li121, li124, li127, li128, li144, li255, li300, li360, li372, li396, li600, li999, li1000, li9960, li9990, li1000000, nI_1, nI_add, pk_sub, pk_mul, pk_div, rem_nI, i_lt, i_le, i_eq, okI, ix, isB, nI_clamp, nI_toInt, tneg, gI_sI, gR_sI, gJ_sI, gI_sR, gR_sR, gJ_sR, gI_sJ, gR_sJ, gJ_sJ, true_and, and_true, false_and, and_false, if_true, if_false, if_pos, if_neg, g2, hW, a1]
    · have hz := (hw i hi).1
      have hz4 := (hw i hi).2.1
      have hne : W i ≠ W k := fun e => by have := hinj i k hi hk e; omega
      refine ⟨(e5 i hi (by omega)).1.trans (a4 _ _ (by omega)), fun j => ((e5 i hi (by omega)).2 j).trans (a4 _ _ (by omega))⟩
    · by_cases hik2 : i = k
      · subst hik2
        exact ⟨(e5 i hi (by omega)).1.trans a5, fun h6 j hj => ((e5 i hi (by omega)).2 j).trans (a6 h6 j hj)⟩
      · have hz := (hw i hi).1
        have hz4 := (hw i hi).2.1
        have hne : W i ≠ W k := fun e => by have := hinj i k hi hk e; omega
        obtain ⟨b1, b2⟩ := e6 i hi (by omega)
        exact ⟨b1.trans (a4 _ _ (by omega)), fun h6 j hj => (b2 h6 j hj).trans (a4 _ _ (by omega))⟩
theorem x_un {n : Nat} (hn : n ≤ 4) (hw : ∀ i, i < n → wok L (W i)) (hinj : ∀ i j, i < n → j < n → W i = W j → i = j) : ∀ (d k fuel : Nat) (mm : gMem), gI mm 10 3 = nI n → (∀ i, i < n → gR mm 1 i = some (W i)) → d + k = n → d < fuel → ∃ m', lq2 (s_X11_undo_23 L) fuel (nI k) mm = some (nI n, m') ∧ (∀ o c, gJ m' o c = gJ mm o c) ∧ (∀ o c, gR m' o c = gR mm o c) ∧ (∀ o c, ¬ (128 ≤ o ∧ (o % 4 = 0 ∧ c = 2 ∨ o % 4 = 2)) → gI m' o c = gI mm o c) ∧ (∀ i, i < n → i < k → gI m' (W i) 2 = gI mm (W i) 2 ∧ ∀ j, gI m' (W i + 2) j = gI mm (W i + 2) j) ∧ (∀ i, i < n → k ≤ i → gI m' (W i) 2 = gI mm (W i) 3 ∧ (wkd (W i) = 6 → ∀ j, j < 4 → gI m' (W i + 2) j = gI mm (W i + 3) j))
  | 0, k, fuel, mm, g1, g3, h1, h2 => by
    obtain ⟨f, rfl⟩ : ∃ f, fuel = f + 1 := ⟨fuel - 1, by omega⟩
    refine ⟨mm, ?_, fun _ _ => rfl, fun _ _ => rfl, fun _ _ _ => rfl, fun _ _ _ => ⟨rfl, fun _ => rfl⟩, fun i a b => by omega⟩
    rw [lq2_u]
    unfold s_X11_undo_23
    simp (disch := omega) only [lt1, jn, bd_s, bd2_s, oc_s, oc_n, li0, li1, li2, li3, li4, li5, li6, li7, li8, li9, li10, li11, li12, li13, li14, li16, li20, li21, li22, li24, li30, li31, li33, li38, li39, li40, li41, li45, li48, li50, li51, li57, li58, li59, li60, li61, li62, li64, li70, li71, li72, li99, li100, li101, li104, li107, li109, li116, li120, li121, li124, li127, li128, li144, li255, li300, li360, li372, li396, li600, li999, li1000, li9960, li9990, li1000000, nI_1, nI_add, pk_sub, pk_mul, pk_div, rem_nI, i_lt, i_le, i_eq, okI, ix, isB, nI_clamp, nI_toInt, tneg, gI_sI, gR_sI, gJ_sI, gI_sR, gR_sR, gJ_sR, gI_sJ, gR_sJ, gJ_sJ, true_and, and_true, false_and, and_false, if_true, if_false, if_pos, if_neg, g1]
  | d + 1, k, fuel, mm, g1, g3, h1, h2 => by
    obtain ⟨f, rfl⟩ : ∃ f, fuel = f + 1 := ⟨fuel - 1, by omega⟩
    have hk : k < n := by omega
    obtain ⟨q1, q2, q3, q4⟩ := hw k hk
    obtain ⟨m1, a1, a2, a3, a4, a5, a6⟩ := x_goBack (L := L) q3 q1 q2 mm
    obtain ⟨m', e1, e2, e3, e4, e5, e6⟩ := x_un hn hw hinj d (k + 1) f m1 ((a4 _ _ (by omega)).trans g1) (fun i hi => (a3 _ _).trans (g3 i hi)) (by omega) (by omega)
    refine ⟨m', ?_, fun o c => (e2 o c).trans (a2 o c), fun o c => (e3 o c).trans (a3 o c), fun o c q => (e4 o c q).trans (a4 o c (by omega)), fun i hi hik => ?_, fun i hi hik => ?_⟩
    · rw [← e1, lq2_u]
      generalize lq2 (s_X11_undo_23 L) f = F
      unfold s_X11_undo_23
      rw [x_findN hn hk g1 (g3 k hk)]
      have hW := eq_true (hw k hk)
      simp (disch := omega) only [lt1, jn, bd_s, bd2_s, oc_s, oc_n, li0, li1, li2, li3, li4, li5, li6, li7, li8, li9, li10, li11, li12, li13, li14, li16, li20, li21, li22, li24, li30, li31, li33, li38, li39, li40, li41, li45, li48, li50, li51, li57, li58, li59, li60, li61, li62, li64, li70, li71, li72, li99, li100, li101, li104, li107, li109, li116, li120, li121, li124, li127, li128, li144, li255, li300, li360, li372, li396, li600, li999, li1000, li9960, li9990, li1000000, nI_1, nI_add, pk_sub, pk_mul, pk_div, rem_nI, i_lt, i_le, i_eq, okI, ix, isB, nI_clamp, nI_toInt, tneg, gI_sI, gR_sI, gJ_sI, gI_sR, gR_sR, gJ_sR, gI_sJ, gR_sJ, gJ_sJ, true_and, and_true, false_and, and_false, if_true, if_false, if_pos, if_neg, g1, hW, a1]
    · have hz := (hw i hi).1
      have hz4 := (hw i hi).2.1
      have hne : W i ≠ W k := fun e => by have := hinj i k hi hk e; omega
      refine ⟨(e5 i hi (by omega)).1.trans (a4 _ _ (by omega)), fun j => ((e5 i hi (by omega)).2 j).trans (a4 _ _ (by omega))⟩
    · by_cases hik2 : i = k
      · subst hik2
        exact ⟨(e5 i hi (by omega)).1.trans a5, fun h6 j hj => ((e5 i hi (by omega)).2 j).trans (a6 h6 j hj)⟩
      · have hz := (hw i hi).1
        have hz4 := (hw i hi).2.1
        have hne : W i ≠ W k := fun e => by have := hinj i k hi hk e; omega
        obtain ⟨b1, b2⟩ := e6 i hi (by omega)
        exact ⟨b1.trans (a4 _ _ (by omega)), fun h6 j hj => (b2 h6 j hj).trans (a4 _ _ (by omega))⟩
end O6
