/-! of, told, step, looked, who, mean -/
section P1
variable {L : List Nat} {W : Nat → Nat} {N : Nat → List cls} {x m x' m' : gMem}
theorem Rel.kp (H : Rel L W N x m) (hx : okX17 x x') (hm : okM15 m m') : Rel L W N x' m' := H.fr hx.ag hm.ag
theorem op_of (H : Rel L W N x m) (p0 p1 : Int32) : Op L W N (f_X11_of L x p0 p1) (f_X12_of m p0 p1) := by
  obtain ⟨n, hn, en, hW⟩ := H.2.1
  unfold f_X11_of f_X12_of
  rw [x_find H hn en, m_isWalker hn en, m_in]
  rcases p_in p0 n (by omega) with ⟨i, hi, rfl⟩ | h | h
  rotate_left
  · exact ⟨-1, x, m, by simp (disch := omega) only [lt1, jn, bd_s, bd2_s, oc_s, oc_n, li0, li1, li2, li3, li4, li5, li6, li7, li8, li9, li10, li11, li12, li13, li14, li16, li20, li21, li22, li24, li30, li31, li33, li38, li39, li40, li41, li45, li48, li50, li51, li57, li58, li59, li60, li61, li62, li64, li70, li71, li72, li99, li100, li101, li104, li107, li109, li116, li120, li121, li124, li127, li128, li144, li255, li300, li360, li372, li396, li600, li999, li1000, li9960, li9990, li1000000, nI_1, nI_add, pk_sub, pk_mul, pk_div, rem_nI, i_lt, i_le, i_eq, okI, ix, isB, nI_clamp, nI_toInt, tneg, gI_sI, gR_sI, gJ_sI, gI_sR, gR_sR, gJ_sR, gI_sJ, gR_sJ, gJ_sJ, true_and, and_true, false_and, and_false, if_true, if_false, if_pos, if_neg], by simp (disch := omega) only [lt1, jn, bd_s, bd2_s, oc_s, oc_n, li0, li1, li2, li3, li4, li5, li6, li7, li8, li9, li10, li11, li12, li13, li14, li16, li20, li21, li22, li24, li30, li31, li33, li38, li39, li40, li41, li45, li48, li50, li51, li57, li58, li59, li60, li61, li62, li64, li70, li71, li72, li99, li100, li101, li104, li107, li109, li116, li120, li121, li124, li127, li128, li144, li255, li300, li360, li372, li396, li600, li999, li1000, li9960, li9990, li1000000, nI_1, nI_add, pk_sub, pk_mul, pk_div, rem_nI, i_lt, i_le, i_eq, okI, ix, isB, nI_clamp, nI_toInt, tneg, gI_sI, gR_sI, gJ_sI, gI_sR, gR_sR, gJ_sR, gI_sJ, gR_sJ, gJ_sJ, true_and, and_true, false_and, and_false, if_true, if_false, if_pos, if_neg], H⟩
  · exact ⟨-1, x, m, by simp (disch := omega) only [lt1, jn, bd_s, bd2_s, oc_s, oc_n, li0, li1, li2, li3, li4, li5, li6, li7, li8, li9, li10, li11, li12, li13, li14, li16, li20, li21, li22, li24, li30, li31, li33, li38, li39, li40, li41, li45, li48, li50, li51, li57, li58, li59, li60, li61, li62, li64, li70, li71, li72, li99, li100, li101, li104, li107, li109, li116, li120, li121, li124, li127, li128, li144, li255, li300, li360, li372, li396, li600, li999, li1000, li9960, li9990, li1000000, nI_1, nI_add, pk_sub, pk_mul, pk_div, rem_nI, i_lt, i_le, i_eq, okI, ix, isB, nI_clamp, nI_toInt, tneg, gI_sI, gR_sI, gJ_sI, gI_sR, gR_sR, gJ_sR, gI_sJ, gR_sJ, gJ_sJ, true_and, and_true, false_and, and_false, if_true, if_false, if_pos, if_neg], by simp (disch := omega) only [lt1, jn, bd_s, bd2_s, oc_s, oc_n, li0, li1, li2, li3, li4, li5, li6, li7, li8, li9, li10, li11, li12, li13, li14, li16, li20, li21, li22, li24, li30, li31, li33, li38, li39, li40, li41, li45, li48, li50, li51, li57, li58, li59, li60, li61, li62, li64, li70, li71, li72, li99, li100, li101, li104, li107, li109, li116, li120, li121, li124, li127, li128, li144, li255, li300, li360, li372, li396, li600, li999, li1000, li9960, li9990, li1000000, nI_1, nI_add, pk_sub, pk_mul, pk_div, rem_nI, i_lt, i_le, i_eq, okI, ix, isB, nI_clamp, nI_toInt, tneg, gI_sI, gR_sI, gJ_sI, gI_sR, gR_sR, gJ_sR, gI_sJ, gR_sJ, gJ_sJ, true_and, and_true, false_and, and_false, if_true, if_false, if_pos, if_neg], H⟩
  obtain ⟨q1, q2, q3, q4, q5, q6, q7, q8, q9⟩ := hW.1 i hi
  have hw := eq_true q1
  have hk := x_kind (L := L) (x := x) q1.2.2.1
  have z7 := q1.2.2.1
  obtain ⟨t, ht, et⟩ : rg (gI m 0 1) 9992 := H.1.2.2.2.1
  have ex : gI x 10 4 = gI m 0 1 := H.1.1.2.2.2.1
  rcases p_in p1 22 (by decide) with ⟨a, ha, rfl⟩ | h | h
  rotate_left
  · exact ⟨-1, x, m, by simp (disch := omega) only [lt1, jn, bd_s, bd2_s, oc_s, oc_n, li0, li1, li2, li3, li4, li5, li6, li7, li8, li9, li10, li11, li12, li13, li14, li16, li20, li21, li22, li24, li30, li31, li33, li38, li39, li40, li41, li45, li48, li50, li51, li57, li58, li59, li60, li61, li62, li64, li70, li71, li72, li99, li100, li101, li104, li107, li109, li116, li120, li121, li124, li127, li128, li144, li255, li300, li360, li372, li396, li600, li999, li1000, li9960, li9990, li1000000, nI_1, nI_add, pk_sub, pk_mul, pk_div, rem_nI, i_lt, i_le, i_eq, okI, ix, isB, nI_clamp, nI_toInt, tneg, gI_sI, gR_sI, gJ_sI, gI_sR, gR_sR, gJ_sR, gI_sJ, gR_sJ, gJ_sJ, true_and, and_true, false_and, and_false, if_true, if_false, if_pos, if_neg, hw], by simp (disch := omega) only [lt1, jn, bd_s, bd2_s, oc_s, oc_n, li0, li1, li2, li3, li4, li5, li6, li7, li8, li9, li10, li11, li12, li13, li14, li16, li20, li21, li22, li24, li30, li31, li33, li38, li39, li40, li41, li45, li48, li50, li51, li57, li58, li59, li60, li61, li62, li64, li70, li71, li72, li99, li100, li101, li104, li107, li109, li116, li120, li121, li124, li127, li128, li144, li255, li300, li360, li372, li396, li600, li999, li1000, li9960, li9990, li1000000, nI_1, nI_add, pk_sub, pk_mul, pk_div, rem_nI, i_lt, i_le, i_eq, okI, ix, isB, nI_clamp, nI_toInt, tneg, gI_sI, gR_sI, gJ_sI, gI_sR, gR_sR, gJ_sR, gI_sJ, gR_sJ, gJ_sJ, true_and, and_true, false_and, and_false, if_true, if_false, if_pos, if_neg], H⟩
  · exact ⟨-1, x, m, by simp (disch := omega) only [lt1, jn, bd_s, bd2_s, oc_s, oc_n, li0, li1, li2, li3, li4, li5, li6, li7, li8, li9, li10, li11, li12, li13, li14, li16, li20, li21, li22, li24, li30, li31, li33, li38, li39, li40, li41, li45, li48, li50, li51, li57, li58, li59, li60, li61, li62, li64, li70, li71, li72, li99, li100, li101, li104, li107, li109, li116, li120, li121, li124, li127, li128, li144, li255, li300, li360, li372, li396, li600, li999, li1000, li9960, li9990, li1000000, nI_1, nI_add, pk_sub, pk_mul, pk_div, rem_nI, i_lt, i_le, i_eq, okI, ix, isB, nI_clamp, nI_toInt, tneg, gI_sI, gR_sI, gJ_sI, gI_sR, gR_sR, gJ_sR, gI_sJ, gR_sJ, gJ_sJ, true_and, and_true, false_and, and_false, if_true, if_false, if_pos, if_neg, hw], by simp (disch := omega) only [lt1, jn, bd_s, bd2_s, oc_s, oc_n, li0, li1, li2, li3, li4, li5, li6, li7, li8, li9, li10, li11, li12, li13, li14, li16, li20, li21, li22, li24, li30, li31, li33, li38, li39, li40, li41, li45, li48, li50, li51, li57, li58, li59, li60, li61, li62, li64, li70, li71, li72, li99, li100, li101, li104, li107, li109, li116, li120, li121, li124, li127, li128, li144, li255, li300, li360, li372, li396, li600, li999, li1000, li9960, li9990, li1000000, nI_1, nI_add, pk_sub, pk_mul, pk_div, rem_nI, i_lt, i_le, i_eq, okI, ix, isB, nI_clamp, nI_toInt, tneg, gI_sI, gR_sI, gJ_sI, gI_sR, gR_sR, gJ_sR, gI_sJ, gR_sJ, gJ_sJ, true_and, and_true, false_and, and_false, if_true, if_false, if_pos, if_neg], H⟩
  by_cases h10 : a < 10
  · by_cases h0 : a = 0
    · subst h0
      exact ⟨nI (wkd (W i)), x, m, by simp (disch := omega) only [lt1, jn, bd_s, bd2_s, oc_s, oc_n, li0, li1, li2, li3, li4, li5, li6, li7, li8, li9, li10, li11, li12, li13, li14, li16, li20, li21, li22, li24, li30, li31, li33, li38, li39, li40, li41, li45, li48, li50, li51, li57, li58, li59, li60, li61, li62, li64, li70, li71, li72, li99, li100, li101, li104, li107, li109, li116, li120, li121, li124, li127, li128, li144, li255, li300, li360, li372, li396, li600, li999, li1000, li9960, li9990, li1000000, nI_1, nI_add, pk_sub, pk_mul, pk_div, rem_nI, i_lt, i_le, i_eq, okI, ix, isB, nI_clamp, nI_toInt, tneg, gI_sI, gR_sI, gJ_sI, gI_sR, gR_sR, gJ_sR, gI_sJ, gR_sJ, gJ_sJ, true_and, and_true, false_and, and_false, if_true, if_false, if_pos, if_neg, hw, hk], by simp (disch := omega) only [lt1, jn, bd_s, bd2_s, oc_s, oc_n, li0, li1, li2, li3, li4, li5, li6, li7, li8, li9, li10, li11, li12, li13, li14, li16, li20, li21, li22, li24, li30, li31, li33, li38, li39, li40, li41, li45, li48, li50, li51, li57, li58, li59, li60, li61, li62, li64, li70, li71, li72, li99, li100, li101, li104, li107, li109, li116, li120, li121, li124, li127, li128, li144, li255, li300, li360, li372, li396, li600, li999, li1000, li9960, li9990, li1000000, nI_1, nI_add, pk_sub, pk_mul, pk_div, rem_nI, i_lt, i_le, i_eq, okI, ix, isB, nI_clamp, nI_toInt, tneg, gI_sI, gR_sI, gJ_sI, gI_sR, gR_sR, gJ_sR, gI_sJ, gR_sJ, gJ_sJ, true_and, and_true, false_and, and_false, if_true, if_false, if_pos, if_neg, q4], H⟩
    by_cases h1 : a = 1
    · subst h1
      exact ⟨gI m 3 i, x, m, by simp (disch := omega) only [lt1, jn, bd_s, bd2_s, oc_s, oc_n, li0, li1, li2, li3, li4, li5, li6, li7, li8, li9, li10, li11, li12, li13, li14, li16, li20, li21, li22, li24, li30, li31, li33, li38, li39, li40, li41, li45, li48, li50, li51, li57, li58, li59, li60, li61, li62, li64, li70, li71, li72, li99, li100, li101, li104, li107, li109, li116, li120, li121, li124, li127, li128, li144, li255, li300, li360, li372, li396, li600, li999, li1000, li9960, li9990, li1000000, nI_1, nI_add, pk_sub, pk_mul, pk_div, rem_nI, i_lt, i_le, i_eq, okI, ix, isB, nI_clamp, nI_toInt, tneg, gI_sI, gR_sI, gJ_sI, gI_sR, gR_sR, gJ_sR, gI_sJ, gR_sJ, gJ_sJ, true_and, and_true, false_and, and_false, if_true, if_false, if_pos, if_neg, hw, q5], by simp (disch := omega) only [lt1, jn, bd_s, bd2_s, oc_s, oc_n, li0, li1, li2, li3, li4, li5, li6, li7, li8, li9, li10, li11, li12, li13, li14, li16, li20, li21, li22, li24, li30, li31, li33, li38, li39, li40, li41, li45, li48, li50, li51, li57, li58, li59, li60, li61, li62, li64, li70, li71, li72, li99, li100, li101, li104, li107, li109, li116, li120, li121, li124, li127, li128, li144, li255, li300, li360, li372, li396, li600, li999, li1000, li9960, li9990, li1000000, nI_1, nI_add, pk_sub, pk_mul, pk_div, rem_nI, i_lt, i_le, i_eq, okI, ix, isB, nI_clamp, nI_toInt, tneg, gI_sI, gR_sI, gJ_sI, gI_sR, gR_sR, gJ_sR, gI_sJ, gR_sJ, gJ_sJ, true_and, and_true, false_and, and_false, if_true, if_false, if_pos, if_neg], H⟩
    by_cases h2 : a = 2
    · subst h2
      exact ⟨gI m 4 i, x, m, by simp (disch := omega) only [lt1, jn, bd_s, bd2_s, oc_s, oc_n, li0, li1, li2, li3, li4, li5, li6, li7, li8, li9, li10, li11, li12, li13, li14, li16, li20, li21, li22, li24, li30, li31, li33, li38, li39, li40, li41, li45, li48, li50, li51, li57, li58, li59, li60, li61, li62, li64, li70, li71, li72, li99, li100, li101, li104, li107, li109, li116, li120, li121, li124, li127, li128, li144, li255, li300, li360, li372, li396, li600, li999, li1000, li9960, li9990, li1000000, nI_1, nI_add, pk_sub, pk_mul, pk_div, rem_nI, i_lt, i_le, i_eq, okI, ix, isB, nI_clamp, nI_toInt, tneg, gI_sI, gR_sI, gJ_sI, gI_sR, gR_sR, gJ_sR, gI_sJ, gR_sJ, gJ_sJ, true_and, and_true, false_and, and_false, if_true, if_false, if_pos, if_neg, hw, q7], by simp (disch := omega) only [lt1, jn, bd_s, bd2_s, oc_s, oc_n, li0, li1, li2, li3, li4, li5, li6, li7, li8, li9, li10, li11, li12, li13, li14, li16, li20, li21, li22, li24, li30, li31, li33, li38, li39, li40, li41, li45, li48, li50, li51, li57, li58, li59, li60, li61, li62, li64, li70, li71, li72, li99, li100, li101, li104, li107, li109, li116, li120, li121, li124, li127, li128, li144, li255, li300, li360, li372, li396, li600, li999, li1000, li9960, li9990, li1000000, nI_1, nI_add, pk_sub, pk_mul, pk_div, rem_nI, i_lt, i_le, i_eq, okI, ix, isB, nI_clamp, nI_toInt, tneg, gI_sI, gR_sI, gJ_sI, gI_sR, gR_sR, gJ_sR, gI_sJ, gR_sJ, gJ_sJ, true_and, and_true, false_and, and_false, if_true, if_false, if_pos, if_neg], H⟩
    · exact ⟨-1, x, m, by simp (disch := omega) only [lt1, jn, bd_s, bd2_s, oc_s, oc_n, li0, li1, li2, li3, li4, li5, li6, li7, li8, li9, li10, li11, li12, li13, li14, li16, li20, li21, li22, li24, li30, li31, li33, li38, li39, li40, li41, li45, li48, li50, li51, li57, li58, li59, li60, li61, li62, li64, li70, li71, li72, li99, li100, li101, li104, li107, li109, li116, li120, li121, li124, li127, li128, li144, li255, li300, li360, li372, li396, li600, li999, li1000, li9960, li9990, li1000000, nI_1, nI_add, pk_sub, pk_mul, pk_div, rem_nI, i_lt, i_le, i_eq, okI, ix, isB, nI_clamp, nI_toInt, tneg, gI_sI, gR_sI, gJ_sI, gI_sR, gR_sR, gJ_sR, gI_sJ, gR_sJ, gJ_sJ, true_and, and_true, false_and, and_false, if_true, if_false, if_pos, if_neg, hw], by simp (disch := omega) only [lt1, jn, bd_s, bd2_s, oc_s, oc_n, li0, li1, li2, li3, li4, li5, li6, li7, li8, li9, li10, li11, li12, li13, li14, li16, li20, li21, li22, li24, li30, li31, li33, li38, li39, li40, li41, li45, li48, li50, li51, li57, li58, li59, li60, li61, li62, li64, li70, li71, li72, li99, li100, li101, li104, li107, li109, li116, li120, li121, li124, li127, li128, li144, li255, li300, li360, li372, li396, li600, li999, li1000, li9960, li9990, li1000000, nI_1, nI_add, pk_sub, pk_mul, pk_div, rem_nI, i_lt, i_le, i_eq, okI, ix, isB, nI_clamp, nI_toInt, tneg, gI_sI, gR_sI, gJ_sI, gI_sR, gR_sR, gJ_sR, gI_sJ, gR_sJ, gJ_sJ, true_and, and_true, false_and, and_false, if_true, if_false, if_pos, if_neg], H⟩
  · obtain ⟨x', e1, e2⟩ := H.xnoise hn en hi (b := a - 10) (t := t) (by omega) (by omega)
    obtain ⟨m', f1, f2⟩ := H.mnoise hn en hi (b := a - 10) (t := t) (by omega) (by omega)
    exact ⟨nI (nzO N W m i (a - 10) t), x', m', by simp (disch := omega) only [lt1, jn, bd_s, bd2_s, oc_s, oc_n, li0, li1, li2, li3, li4, li5, li6, li7, li8, li9, li10, li11, li12, li13, li14, li16, li20, li21, li22, li24, li30, li31, li33, li38, li39, li40, li41, li45, li48, li50, li51, li57, li58, li59, li60, li61, li62, li64, li70, li71, li72, li99, li100, li101, li104, li107, li109, li116, li120, li121, li124, li127, li128, li144, li255, li300, li360, li372, li396, li600, li999, li1000, li9960, li9990, li1000000, nI_1, nI_add, pk_sub, pk_mul, pk_div, rem_nI, i_lt, i_le, i_eq, okI, ix, isB, nI_clamp, nI_toInt, tneg, gI_sI, gR_sI, gJ_sI, gI_sR, gR_sR, gJ_sR, gI_sJ, gR_sJ, gJ_sJ, true_and, and_true, false_and, and_false, if_true, if_false, if_pos, if_neg, hw, ex, et, e1], by simp (disch := omega) only [lt1, jn, bd_s, bd2_s, oc_s, oc_n, li0, li1, li2, li3, li4, li5, li6, li7, li8, li9, li10, li11, li12, li13, li14, li16, li20, li21, li22, li24, li30, li31, li33, li38, li39, li40, li41, li45, li48, li50, li51, li57, li58, li59, li60, li61, li62, li64, li70, li71, li72, li99, li100, li101, li104, li107, li109, li116, li120, li121, li124, li127, li128, li144, li255, li300, li360, li372, li396, li600, li999, li1000, li9960, li9990, li1000000, nI_1, nI_add, pk_sub, pk_mul, pk_div, rem_nI, i_lt, i_le, i_eq, okI, ix, isB, nI_clamp, nI_toInt, tneg, gI_sI, gR_sI, gJ_sI, gI_sR, gR_sR, gJ_sR, gI_sJ, gR_sJ, gJ_sJ, true_and, and_true, false_and, and_false, if_true, if_false, if_pos, if_neg, et, f1], H.kp e2 f2⟩
theorem op_told (H : Rel L W N x m) (p0 : Int32) : Op L W N (f_X11_told L x p0) (f_X12_told m p0) := by
  obtain ⟨⟨⟨s1, s2, s3, s4, s5, s6, s7, s8, s9⟩, a, r⟩, hrest⟩ := id H
  simp only [fC] at s1 s2 s3 s4 s5 s6
  obtain ⟨t, ht, et⟩ : rg (gI m 0 1) 9992 := H.1.2.2.2.1
  obtain ⟨aw, haw, eaw⟩ : rg (gI m 0 5) 1 := H.1.2.2.2.2.2.2.2.1
  obtain ⟨x', e1, e2⟩ := H.xdepth (t := t) (by omega)
  obtain ⟨m', f1, f2⟩ := H.mdepth (t := t) (by omega)
  unfold f_X11_told f_X12_told
  rw [s1, s2, s4, s5, s6, et, e1, f1]
  simp only [bd2_s]
  by_cases h0 : p0 = 0
  · rw [if_pos h0, if_pos h0]; exact ⟨_, _, _, rfl, rfl, H⟩
  rw [if_neg h0, if_neg h0]
  by_cases h1 : p0 = 1
  · rw [if_pos h1, if_pos h1]; exact ⟨_, _, _, rfl, rfl, H⟩
  rw [if_neg h1, if_neg h1]
  by_cases h2 : p0 = 2
  · rw [if_pos h2, if_pos h2]
    by_cases h : gI m 0 5 = 0
    · rw [if_pos h, if_pos h]; exact ⟨_, _, _, rfl, rfl, H⟩
    · rw [if_neg h, if_neg h]; exact ⟨_, _, _, rfl, rfl, H⟩
  rw [if_neg h2, if_neg h2]
  by_cases h3 : p0 = 3
  · rw [if_pos h3, if_pos h3]; exact ⟨_, _, _, rfl, rfl, H.kp e2 f2⟩
  rw [if_neg h3, if_neg h3]
  by_cases h4 : p0 = 4
  · rw [if_pos h4, if_pos h4]; exact ⟨_, _, _, rfl, rfl, H⟩
  rw [if_neg h4, if_neg h4]
  by_cases h5 : p0 = 5
  · rw [if_pos h5, if_pos h5]; exact ⟨_, _, _, rfl, rfl, H⟩
  rw [if_neg h5, if_neg h5]
  exact ⟨_, _, _, rfl, rfl, H⟩
theorem gs_ov (m : gMem) (o k p q : Nat) (v w u : Int32) : gsI (gsI (gsI m o k v) p q w) o k u = gsI (gsI m p q w) o k u := by
  unfold gsI
  congr 1
  funext a b
  simp only
  by_cases h : a = o ∧ b = k
  · rw [if_pos h, if_pos h]
  · rw [if_neg h, if_neg h]
    by_cases h2 : a = p ∧ b = q
    · rw [if_pos h2, if_neg h]
    · rw [if_neg h2, if_neg h]
theorem sbN_le {n d s : Nat} (hs : s ≤ 2) : sbN n d s ≤ 3 := by unfold sbN; split <;> (try split) <;> omega
theorem op_step (H : Rel L W N x m) (p0 p1 : Int32) : Op L W N (f_X11_step L x p0 p1) (f_X12_step m p0 p1) := by
  obtain ⟨n, hn, en, hW⟩ := H.2.1
  unfold f_X11_step f_X12_step
  rw [x_find H hn en, m_isWalker hn en, x_isBoard, m_isBoard]
  rcases p_in p0 n (by omega) with ⟨i, hi, rfl⟩ | h | h
  rotate_left
  · exact ⟨-1, x, m, by simp (disch := omega) only [lt1, jn, bd_s, bd2_s, oc_s, oc_n, li0, li1, li2, li3, li4, li5, li6, li7, li8, li9, li10, li11, li12, li13, li14, li16, li20, li21, li22, li24, li30, li31, li33, li38, li39, li40, li41, li45, li48, li50, li51, li57, li58, li59, li60, li61, li62, li64, li70, li71, li72, li99, li100, li101, li104, li107, li109, li116, li120, li121, li124, li127, li128, li144, li255, li300, li360, li372, li396, li600, li999, li1000, li9960, li9990, li1000000, nI_1, nI_add, pk_sub, pk_mul, pk_div, rem_nI, i_lt, i_le, i_eq, okI, ix, isB, nI_clamp, nI_toInt, tneg, gI_sI, gR_sI, gJ_sI, gI_sR, gR_sR, gJ_sR, gI_sJ, gR_sJ, gJ_sJ, true_and, and_true, false_and, and_false, if_true, if_false, if_pos, if_neg], by simp (disch := omega) only [lt1, jn, bd_s, bd2_s, oc_s, oc_n, li0, li1, li2, li3, li4, li5, li6, li7, li8, li9, li10, li11, li12, li13, li14, li16, li20, li21, li22, li24, li30, li31, li33, li38, li39, li40, li41, li45, li48, li50, li51, li57, li58, li59, li60, li61, li62, li64, li70, li71, li72, li99, li100, li101, li104, li107, li109, li116, li120, li121, li124, li127, li128, li144, li255, li300, li360, li372, li396, li600, li999, li1000, li9960, li9990, li1000000, nI_1, nI_add, pk_sub, pk_mul, pk_div, rem_nI, i_lt, i_le, i_eq, okI, ix, isB, nI_clamp, nI_toInt, tneg, gI_sI, gR_sI, gJ_sI, gI_sR, gR_sR, gJ_sR, gI_sJ, gR_sJ, gJ_sJ, true_and, and_true, false_and, and_false, if_true, if_false, if_pos, if_neg], H⟩
  · exact ⟨-1, x, m, by simp (disch := omega) only [lt1, jn, bd_s, bd2_s, oc_s, oc_n, li0, li1, li2, li3, li4, li5, li6, li7, li8, li9, li10, li11, li12, li13, li14, li16, li20, li21, li22, li24, li30, li31, li33, li38, li39, li40, li41, li45, li48, li50, li51, li57, li58, li59, li60, li61, li62, li64, li70, li71, li72, li99, li100, li101, li104, li107, li109, li116, li120, li121, li124, li127, li128, li144, li255, li300, li360, li372, li396, li600, li999, li1000, li9960, li9990, li1000000, nI_1, nI_add, pk_sub, pk_mul, pk_div, rem_nI, i_lt, i_le, i_eq, okI, ix, isB, nI_clamp, nI_toInt, tneg, gI_sI, gR_sI, gJ_sI, gI_sR, gR_sR, gJ_sR, gI_sJ, gR_sJ, gJ_sJ, true_and, and_true, false_and, and_false, if_true, if_false, if_pos, if_neg], by simp (disch := omega) only [lt1, jn, bd_s, bd2_s, oc_s, oc_n, li0, li1, li2, li3, li4, li5, li6, li7, li8, li9, li10, li11, li12, li13, li14, li16, li20, li21, li22, li24, li30, li31, li33, li38, li39, li40, li41, li45, li48, li50, li51, li57, li58, li59, li60, li61, li62, li64, li70, li71, li72, li99, li100, li101, li104, li107, li109, li116, li120, li121, li124, li127, li128, li144, li255, li300, li360, li372, li396, li600, li999, li1000, li9960, li9990, li1000000, nI_1, nI_add, pk_sub, pk_mul, pk_div, rem_nI, i_lt, i_le, i_eq, okI, ix, isB, nI_clamp, nI_toInt, tneg, gI_sI, gR_sI, gJ_sI, gI_sR, gR_sR, gJ_sR, gI_sJ, gR_sJ, gJ_sJ, true_and, and_true, false_and, and_false, if_true, if_false, if_pos, if_neg], H⟩
  obtain ⟨q1, q2, q3, q4, q5, q6, q7, ⟨bi, hbi, ebi⟩, q9⟩ := hW.1 i hi
  have hw := eq_true q1
  have z3 := q1.1
  have z4 := q1.2.1
  have z7 := q1.2.2.1
  rcases p_in p1 12 (by decide) with ⟨b, hb, rfl⟩ | h | h
  rotate_left
  · exact ⟨-1, x, m, by simp (disch := omega) only [lt1, jn, bd_s, bd2_s, oc_s, oc_n, li0, li1, li2, li3, li4, li5, li6, li7, li8, li9, li10, li11, li12, li13, li14, li16, li20, li21, li22, li24, li30, li31, li33, li38, li39, li40, li41, li45, li48, li50, li51, li57, li58, li59, li60, li61, li62, li64, li70, li71, li72, li99, li100, li101, li104, li107, li109, li116, li120, li121, li124, li127, li128, li144, li255, li300, li360, li372, li396, li600, li999, li1000, li9960, li9990, li1000000, nI_1, nI_add, pk_sub, pk_mul, pk_div, rem_nI, i_lt, i_le, i_eq, okI, ix, isB, nI_clamp, nI_toInt, tneg, gI_sI, gR_sI, gJ_sI, gI_sR, gR_sR, gJ_sR, gI_sJ, gR_sJ, gJ_sJ, true_and, and_true, false_and, and_false, if_true, if_false, if_pos, if_neg, hw], by simp (disch := omega) only [lt1, jn, bd_s, bd2_s, oc_s, oc_n, li0, li1, li2, li3, li4, li5, li6, li7, li8, li9, li10, li11, li12, li13, li14, li16, li20, li21, li22, li24, li30, li31, li33, li38, li39, li40, li41, li45, li48, li50, li51, li57, li58, li59, li60, li61, li62, li64, li70, li71, li72, li99, li100, li101, li104, li107, li109, li116, li120, li121, li124, li127, li128, li144, li255, li300, li360, li372, li396, li600, li999, li1000, li9960, li9990, li1000000, nI_1, nI_add, pk_sub, pk_mul, pk_div, rem_nI, i_lt, i_le, i_eq, okI, ix, isB, nI_clamp, nI_toInt, tneg, gI_sI, gR_sI, gJ_sI, gI_sR, gR_sR, gJ_sR, gI_sJ, gR_sJ, gJ_sJ, true_and, and_true, false_and, and_false, if_true, if_false, if_pos, if_neg], H⟩
  · exact ⟨-1, x, m, by simp (disch := omega) only [lt1, jn, bd_s, bd2_s, oc_s, oc_n, li0, li1, li2, li3, li4, li5, li6, li7, li8, li9, li10, li11, li12, li13, li14, li16, li20, li21, li22, li24, li30, li31, li33, li38, li39, li40, li41, li45, li48, li50, li51, li57, li58, li59, li60, li61, li62, li64, li70, li71, li72, li99, li100, li101, li104, li107, li109, li116, li120, li121, li124, li127, li128, li144, li255, li300, li360, li372, li396, li600, li999, li1000, li9960, li9990, li1000000, nI_1, nI_add, pk_sub, pk_mul, pk_div, rem_nI, i_lt, i_le, i_eq, okI, ix, isB, nI_clamp, nI_toInt, tneg, gI_sI, gR_sI, gJ_sI, gI_sR, gR_sR, gJ_sR, gI_sJ, gR_sJ, gJ_sJ, true_and, and_true, false_and, and_false, if_true, if_false, if_pos, if_neg, hw], by simp (disch := omega) only [lt1, jn, bd_s, bd2_s, oc_s, oc_n, li0, li1, li2, li3, li4, li5, li6, li7, li8, li9, li10, li11, li12, li13, li14, li16, li20, li21, li22, li24, li30, li31, li33, li38, li39, li40, li41, li45, li48, li50, li51, li57, li58, li59, li60, li61, li62, li64, li70, li71, li72, li99, li100, li101, li104, li107, li109, li116, li120, li121, li124, li127, li128, li144, li255, li300, li360, li372, li396, li600, li999, li1000, li9960, li9990, li1000000, nI_1, nI_add, pk_sub, pk_mul, pk_div, rem_nI, i_lt, i_le, i_eq, okI, ix, isB, nI_clamp, nI_toInt, tneg, gI_sI, gR_sI, gJ_sI, gI_sR, gR_sR, gJ_sR, gI_sJ, gR_sJ, gJ_sJ, true_and, and_true, false_and, and_false, if_true, if_false, if_pos, if_neg], H⟩
  have hx1 := x_bes1 bi (by omega) b hb
  have hm1 := m_bes1 bi (by omega) b hb
  by_cases hbs : bes bi b = true
  rotate_left
  · have hbs : bes bi b = false := by simpa using hbs
    rw [hbs] at hx1 hm1
    exact ⟨-2, x, m, by simp (disch := omega) only [lt1, jn, bd_s, bd2_s, oc_s, oc_n, li0, li1, li2, li3, li4, li5, li6, li7, li8, li9, li10, li11, li12, li13, li14, li16, li20, li21, li22, li24, li30, li31, li33, li38, li39, li40, li41, li45, li48, li50, li51, li57, li58, li59, li60, li61, li62, li64, li70, li71, li72, li99, li100, li101, li104, li107, li109, li116, li120, li121, li124, li127, li128, li144, li255, li300, li360, li372, li396, li600, li999, li1000, li9960, li9990, li1000000, nI_1, nI_add, pk_sub, pk_mul, pk_div, rem_nI, i_lt, i_le, i_eq, okI, ix, isB, nI_clamp, nI_toInt, tneg, gI_sI, gR_sI, gJ_sI, gI_sR, gR_sR, gJ_sR, gI_sJ, gR_sJ, gJ_sJ, true_and, and_true, false_and, and_false, if_true, if_false, if_pos, if_neg, hw, q7, ebi, hx1, Bool.false_eq_true], by simp (disch := omega) only [lt1, jn, bd_s, bd2_s, oc_s, oc_n, li0, li1, li2, li3, li4, li5, li6, li7, li8, li9, li10, li11, li12, li13, li14, li16, li20, li21, li22, li24, li30, li31, li33, li38, li39, li40, li41, li45, li48, li50, li51, li57, li58, li59, li60, li61, li62, li64, li70, li71, li72, li99, li100, li101, li104, li107, li109, li116, li120, li121, li124, li127, li128, li144, li255, li300, li360, li372, li396, li600, li999, li1000, li9960, li9990, li1000000, nI_1, nI_add, pk_sub, pk_mul, pk_div, rem_nI, i_lt, i_le, i_eq, okI, ix, isB, nI_clamp, nI_toInt, tneg, gI_sI, gR_sI, gJ_sI, gI_sR, gR_sR, gJ_sR, gI_sJ, gR_sJ, gJ_sJ, true_and, and_true, false_and, and_false, if_true, if_false, if_pos, if_neg, ebi, hm1, Bool.false_eq_true], H⟩
  rw [hbs] at hx1 hm1
  simp only [if_true] at hx1 hm1
  obtain ⟨t, ht, et⟩ : rg (gI m 0 1) 9992 := H.1.2.2.2.1
  obtain ⟨s, hs, es⟩ : rg (gI m 0 2) 2 := H.1.2.2.2.2.1
  obtain ⟨aw, haw, eaw⟩ : rg (gI m 0 5) 1 := H.1.2.2.2.2.2.2.2.1
  have ex4 : gI x 10 4 = gI m 0 1 := H.1.1.2.2.2.1
  have ex5 : gI x 10 5 = gI m 0 2 := H.1.1.2.2.2.2.1
  have ex6 : gI x 10 6 = gI m 0 5 := H.1.1.2.2.2.2.2.1
  by_cases hA : aw = 0
  rotate_left
  · exact ⟨-3, x, m, by simp (disch := omega) only [lt1, jn, bd_s, bd2_s, oc_s, oc_n, li0, li1, li2, li3, li4, li5, li6, li7, li8, li9, li10, li11, li12, li13, li14, li16, li20, li21, li22, li24, li30, li31, li33, li38, li39, li40, li41, li45, li48, li50, li51, li57, li58, li59, li60, li61, li62, li64, li70, li71, li72, li99, li100, li101, li104, li107, li109, li116, li120, li121, li124, li127, li128, li144, li255, li300, li360, li372, li396, li600, li999, li1000, li9960, li9990, li1000000, nI_1, nI_add, pk_sub, pk_mul, pk_div, rem_nI, i_lt, i_le, i_eq, okI, ix, isB, nI_clamp, nI_toInt, tneg, gI_sI, gR_sI, gJ_sI, gI_sR, gR_sR, gJ_sR, gI_sJ, gR_sJ, gJ_sJ, true_and, and_true, false_and, and_false, if_true, if_false, if_pos, if_neg, hw, q7, ebi, hx1, ex6, eaw], by simp (disch := omega) only [lt1, jn, bd_s, bd2_s, oc_s, oc_n, li0, li1, li2, li3, li4, li5, li6, li7, li8, li9, li10, li11, li12, li13, li14, li16, li20, li21, li22, li24, li30, li31, li33, li38, li39, li40, li41, li45, li48, li50, li51, li57, li58, li59, li60, li61, li62, li64, li70, li71, li72, li99, li100, li101, li104, li107, li109, li116, li120, li121, li124, li127, li128, li144, li255, li300, li360, li372, li396, li600, li999, li1000, li9960, li9990, li1000000, nI_1, nI_add, pk_sub, pk_mul, pk_div, rem_nI, i_lt, i_le, i_eq, okI, ix, isB, nI_clamp, nI_toInt, tneg, gI_sI, gR_sI, gJ_sI, gI_sR, gR_sR, gJ_sR, gI_sJ, gR_sJ, gJ_sJ, true_and, and_true, false_and, and_false, if_true, if_false, if_pos, if_neg, ebi, hm1, eaw], H⟩
  subst hA
  by_cases hT : t ≤ 9990
  rotate_left
  · exact ⟨-3, x, m, by simp (disch := omega) only [lt1, jn, bd_s, bd2_s, oc_s, oc_n, li0, li1, li2, li3, li4, li5, li6, li7, li8, li9, li10, li11, li12, li13, li14, li16, li20, li21, li22, li24, li30, li31, li33, li38, li39, li40, li41, li45, li48, li50, li51, li57, li58, li59, li60, li61, li62, li64, li70, li71, li72, li99, li100, li101, li104, li107, li109, li116, li120, li121, li124, li127, li128, li144, li255, li300, li360, li372, li396, li600, li999, li1000, li9960, li9990, li1000000, nI_1, nI_add, pk_sub, pk_mul, pk_div, rem_nI, i_lt, i_le, i_eq, okI, ix, isB, nI_clamp, nI_toInt, tneg, gI_sI, gR_sI, gJ_sI, gI_sR, gR_sR, gJ_sR, gI_sJ, gR_sJ, gJ_sJ, true_and, and_true, false_and, and_false, if_true, if_false, if_pos, if_neg, hw, q7, ebi, hx1, ex6, eaw, ex4, et], by simp (disch := omega) only [lt1, jn, bd_s, bd2_s, oc_s, oc_n, li0, li1, li2, li3, li4, li5, li6, li7, li8, li9, li10, li11, li12, li13, li14, li16, li20, li21, li22, li24, li30, li31, li33, li38, li39, li40, li41, li45, li48, li50, li51, li57, li58, li59, li60, li61, li62, li64, li70, li71, li72, li99, li100, li101, li104, li107, li109, li116, li120, li121, li124, li127, li128, li144, li255, li300, li360, li372, li396, li600, li999, li1000, li9960, li9990, li1000000, nI_1, nI_add, pk_sub, pk_mul, pk_div, rem_nI, i_lt, i_le, i_eq, okI, ix, isB, nI_clamp, nI_toInt, tneg, gI_sI, gR_sI, gJ_sI, gI_sR, gR_sR, gJ_sR, gI_sJ, gR_sJ, gJ_sJ, true_and, and_true, false_and, and_false, if_true, if_false, if_pos, if_neg, ebi, hm1, eaw, et], H⟩
  have htm := tmN_le (wkd (W i))
  have xt := x_time (L := L) (x := x) z7
  have mt := m_time (m := m) (show i < 4 by omega) z7 q4
  have H1 : Rel L W N (gsI (gsI x 10 4 (nI (t + tmN (wkd (W i))))) (W i) 2 (nI b)) (gsI (gsI m 0 1 (nI (t + tmN (wkd (W i))))) 4 i (nI b)) := by
    have H0 : Rel L W N (gsI x 10 4 (nI (t + tmN (wkd (W i))))) (gsI m 0 1 (nI (t + tmN (wkd (W i))))) := H.ho (hou_min H.1 ⟨_, by omega, rfl⟩) (fun o k q => by simp (disch := omega) only [gI_sI, gI_sJ, gI_sR, if_neg]) (fun _ _ => rfl) (fun _ _ => rfl) (fun o k q => by simp (disch := omega) only [gI_sI, gI_sJ, gI_sR, if_neg]) (fun _ _ => rfl)
    exact H0.wn (WN.put H0.2.1 hn (by rw [gI_n (by omega)]; exact en) hi hb) (fun o k q => by rw [gI_sI, if_neg (by omega)]) (fun _ _ => rfl) (fun _ _ => rfl) (fun o k q => by simp (disch := omega) only [gI_sI, gI_sJ, gI_sR, if_neg]) (fun _ _ => rfl)
  generalize hxx : gsI (gsI x 10 4 (nI (t + tmN (wkd (W i))))) (W i) 2 (nI b) = x1 at H1
  generalize hmm : gsI (gsI m 0 1 (nI (t + tmN (wkd (W i))))) 4 i (nI b) = m1 at H1
  have em1 : gI m1 0 0 = nI n := by rw [← hmm, gI_n (by omega), gI_n (by omega)]; exact en
  have em2 : gI m1 0 1 = nI (t + tmN (wkd (W i))) := by rw [← hmm, gI_n (by omega), gI_y ⟨rfl, rfl⟩]
  have em3 : gI m1 0 2 = nI s := by rw [← hmm, gI_n (by omega), gI_n (by omega)]; exact es
  have exa : gI x1 10 4 = nI (t + tmN (wkd (W i))) := by rw [← hxx, gI_n (by omega), gI_y ⟨rfl, rfl⟩]
  have exb : gI x1 10 5 = nI s := by rw [← hxx, gI_n (by omega), gI_n (by omega), ex5]; exact es
  obtain ⟨x2, e1, e2⟩ := H1.xnoise hn em1 hi (b := b) (t := t + tmN (wkd (W i))) hb (by omega)
  have H2 := H1.kp e2 okM15.rfl
  obtain ⟨x3, e3, e4⟩ := H2.xdepth (t := t + tmN (wkd (W i))) (by omega)
  obtain ⟨m2, f1, f2⟩ := H1.msb hn em1 hi (b := b) (t := t + tmN (wkd (W i))) (s := s) hb (by omega) (by omega)
  have H3 := H2.kp e4 f2
  have hle : nzO N W m1 i b (t + tmN (wkd (W i))) ≤ 1030 := (H1.mn hn em1 hi).le hb _
  have hdl := dep_le H1.2.2.2.2.1 H1.2.2.2.2.2.1 (t + tmN (wkd (W i)))
  have hsl := sbN_le (n := nzO N W m1 i b (t + tmN (wkd (W i)))) (d := depN (curP N m1) (t + tmN (wkd (W i)))) hs
  have xs := x_sb (n := nzO N W m1 i b (t + tmN (wkd (W i)))) (d := depN (curP N m1) (t + tmN (wkd (W i)))) (s := s) (by omega) (by omega) (by omega)
  have em22 : gI m2 0 1 = nI (t + tmN (wkd (W i))) := (f2.1 _ _ (by omega)).trans em2
  have exa2 : gI x2 10 4 = nI (t + tmN (wkd (W i))) := (e2.1 _ _ (by omega)).trans exa
  have exb3 : gI x3 10 5 = nI s := ((e4.1 _ _ (by omega)).trans (e2.1 _ _ (by omega))).trans exb
  generalize hsb : sbN (nzO N W m1 i b (t + tmN (wkd (W i)))) (depN (curP N m1) (t + tmN (wkd (W i)))) s = sb at *
  have fin : ∀ (a s' : Nat), a ≤ 1 → s' ≤ 2 → ∃ m3, f_X12_noise (gsI (gsI (gsI m2 0 2 (nI sb)) 0 5 (nI a)) 0 2 (nI s')) (nI i) (nI b) (nI (t + tmN (wkd (W i)))) = some (nI (nzO N W m1 i b (t + tmN (wkd (W i)))), m3) ∧ Rel L W N (gsI (gsI x3 10 6 (nI a)) 10 5 (nI s')) m3 := by
    intro a s' ha hs'
    have H4 : Rel L W N (gsI (gsI x3 10 6 (nI a)) 10 5 (nI s')) (gsI (gsI (gsI m2 0 2 (nI sb)) 0 5 (nI a)) 0 2 (nI s')) := by
      rw [gs_ov]
      exact H3.ho (hou_stirs (hou_awake H3.1 ⟨a, ha, rfl⟩) ⟨s', hs', rfl⟩) (fun o k q => by simp (disch := omega) only [gI_sI, gI_sJ, gI_sR, if_neg]) (fun _ _ => rfl) (fun _ _ => rfl) (fun o k q => by simp (disch := omega) only [gI_sI, gI_sJ, gI_sR, if_neg]) (fun _ _ => rfl)
    obtain ⟨m3, g1, g2⟩ := H4.mnoise hn (by rw [gI_n (by omega), gI_n (by omega), gI_n (by omega), f2.1 _ _ (by omega)]; exact em1) hi (b := b) (t := t + tmN (wkd (W i))) hb (by omega)
    have hz : nzO N W (gsI (gsI (gsI m2 0 2 (nI sb)) 0 5 (nI a)) 0 2 (nI s')) i b (t + tmN (wkd (W i))) = nzO N W m1 i b (t + tmN (wkd (W i))) := by
      have k : ∀ o c, (o = 0 ∧ (c = 3 ∨ c = 12)) ∨ (1 ≤ o ∧ o ≤ 5) → gI (gsI (gsI (gsI m2 0 2 (nI sb)) 0 5 (nI a)) 0 2 (nI s')) o c = gI m1 o c := by
        intro o c h
        rw [gI_n (by omega), gI_n (by omega), gI_n (by omega), f2.1 _ _ (by omega)]
      have c1 : curP N (gsI (gsI (gsI m2 0 2 (nI sb)) 0 5 (nI a)) 0 2 (nI s')) = curP N m1 := curP_fr (k 0 12 (by omega))
      have c2 : vO (gsI (gsI (gsI m2 0 2 (nI sb)) 0 5 (nI a)) 0 2 (nI s')) i = vO m1 i := by unfold vO; rw [k 3 i (by omega)]
      have c3 : rowO (gsI (gsI (gsI m2 0 2 (nI sb)) 0 5 (nI a)) 0 2 (nI s')) i = rowO m1 i := by funext j; unfold rowO; rw [k 5 _ (by omega)]
      have c4 : crO (gsI (gsI (gsI m2 0 2 (nI sb)) 0 5 (nI a)) 0 2 (nI s')) = crO m1 := by funext j; unfold crO; rw [k 1 _ (by omega)]
      have c5 : tyO (gsI (gsI (gsI m2 0 2 (nI sb)) 0 5 (nI a)) 0 2 (nI s')) = tyO m1 := by unfold tyO; rw [k 0 3 (by omega)]
      unfold nzO
      rw [c1, c2, c3, c4, c5]
    rw [hz] at g1
    exact ⟨m3, g1, H4.kp okX17.rfl g2⟩
  have hB0 : isB (nI 0) := Or.inl rfl
  have hB1 : isB (nI 1) := Or.inr rfl
  have hx0 : gsI (gsI x 10 4 (gI x 10 4 + nI (tmN (wkd (W i))))) (W i) 2 (nI b) = x1 := by rw [ex4, et, nI_add, hxx]
  have hm0 : gsI (gsI m 0 1 (gI m 0 1 + nI (tmN (wkd (W i))))) 4 i (nI b) = m1 := by rw [et, nI_add, hmm]
  rw [curP_fr (N := N) (m := m1) (m' := m1) rfl] at *
  have hc1 := okN hi (show n < 2 ^ 31 by omega)
  have hc2 := okN hb (show 12 < 2 ^ 31 by decide)
  have hc3 := okN (show i < 4 by omega) (show 4 < 2 ^ 31 by decide)
  have ixi : ix (nI i) = i := ixN (by omega)
  have d10 : ¬ (1 : Int32) = 0 := by decide
  have hnp : ¬ nI 1 = 0 := by decide
  have h90 : nI t ≤ (9990 : Int32) := by simp (disch := omega) only [lt1, jn, bd_s, bd2_s, oc_s, oc_n, li0, li1, li2, li3, li4, li5, li6, li7, li8, li9, li10, li11, li12, li13, li14, li16, li20, li21, li22, li24, li30, li31, li33, li38, li39, li40, li41, li45, li48, li50, li51, li57, li58, li59, li60, li61, li62, li64, li70, li71, li72, li99, li100, li101, li104, li107, li109, li116, li120, li121, li124, li127, li128, li144, li255, li300, li360, li372, li396, li600, li999, li1000, li9960, li9990, li1000000, nI_1, nI_add, pk_sub, pk_mul, pk_div, rem_nI, i_lt, i_le, i_eq, okI, ix, isB, nI_clamp, nI_toInt, tneg, gI_sI, gR_sI, gJ_sI, gI_sR, gR_sR, gJ_sR, gI_sJ, gR_sJ, gJ_sJ, true_and, and_true, false_and, and_false, if_true, if_false, if_pos, if_neg]; omega
  by_cases hw3 : sb < 3
  · obtain ⟨m3, g1, g2⟩ := fin 0 sb (by omega) (by omega)
    refine ⟨nI (nzO N W m1 i b (t + tmN (wkd (W i)))), gsI (gsI x3 10 6 (nI 0)) 10 5 (nI sb), m3, ?_, ?_, g2⟩
    · rw [if_pos hc1, bd_s, oc_s, ixi, if_pos q1, if_pos hc2, bd_s, if_neg d10, q7, ebi, hx1, bd_s, if_neg hnp, ex6, eaw, if_pos (show nI 0 = 0 from rfl)]
      rw [if_pos (show gI x 10 4 ≤ 9990 by rw [ex4, et]; exact h90), xt, bd_s]
      simp only [lt1]
      rw [hx0, exa, e1, bd2_s, exa2, e3, bd2_s, exb3]
      rw [xs, bd_s]
      simp only [jn]
      rw [if_pos (show nI sb < 3 from nI_lt (b := 3) hw3 (by decide)), if_pos (show isB (0 : Int32) from Or.inl rfl), gI_y ⟨rfl, rfl⟩, if_pos rfl]
      rfl
    · rw [if_pos hc1, bd_s, if_neg d10, if_pos hc2, bd_s, if_neg d10, if_pos hc3, ixi, ebi, hm1, bd_s, if_neg hnp, eaw, if_pos (show nI 0 = 0 from rfl), et, if_pos h90, mt, bd_s]
      simp only [lt1]
      rw [if_pos hc3, ← et, hm0, em2, em3, f1, bd2_s]
      simp only [jn]
      rw [gI_y ⟨rfl, rfl⟩, if_neg (show ¬ nI sb = 3 by simp (disch := omega) only [lt1, jn, bd_s, bd2_s, oc_s, oc_n, li0, li1, li2, li3, li4, li5, li6, li7, li8, li9, li10, li11, li12, li13, li14, li16, li20, li21, li22, li24, li30, li31, li33, li38, li39, li40, li41, li45, li48, li50, li51, li57, li58, li59, li60, li61, li62, li64, li70, li71, li72, li99, li100, li101, li104, li107, li109, li116, li120, li121, li124, li127, li128, li144, li255, li300, li360, li372, li396, li600, li999, li1000, li9960, li9990, li1000000, nI_1, nI_add, pk_sub, pk_mul, pk_div, rem_nI, i_lt, i_le, i_eq, okI, ix, isB, nI_clamp, nI_toInt, tneg, gI_sI, gR_sI, gJ_sI, gI_sR, gR_sR, gJ_sR, gI_sJ, gR_sJ, gJ_sJ, true_and, and_true, false_and, and_false, if_true, if_false, if_pos, if_neg]; omega), if_pos (show isB (0 : Int32) from Or.inl rfl), gI_y ⟨rfl, rfl⟩, if_pos rfl, gI_n (by omega), gI_y ⟨rfl, rfl⟩, gI_n (by omega), gI_n (by omega), gI_n (by omega), em22]
      rw [li0, g1]; rfl
  · obtain ⟨m3, g1, g2⟩ := fin 1 0 (by omega) (by omega)
    have hsb3 : sb = 3 := by omega
    refine ⟨nI (nzO N W m1 i b (t + tmN (wkd (W i)))), gsI (gsI x3 10 6 (nI 1)) 10 5 (nI 0), m3, ?_, ?_, g2⟩
    · rw [if_pos hc1, bd_s, oc_s, ixi, if_pos q1, if_pos hc2, bd_s, if_neg d10, q7, ebi, hx1, bd_s, if_neg hnp, ex6, eaw, if_pos (show nI 0 = 0 from rfl)]
      rw [if_pos (show gI x 10 4 ≤ 9990 by rw [ex4, et]; exact h90), xt, bd_s]
      simp only [lt1]
      rw [hx0, exa, e1, bd2_s, exa2, e3, bd2_s, exb3]
      rw [xs, bd_s]
      simp only [jn]
      rw [if_neg (show ¬ nI sb < 3 from nI_nlt (b := 3) (by omega) (by omega)), if_pos (show isB (1 : Int32) from Or.inr rfl), gI_y ⟨rfl, rfl⟩, if_neg (by decide)]
      rfl
    · rw [if_pos hc1, bd_s, if_neg d10, if_pos hc2, bd_s, if_neg d10, if_pos hc3, ixi, ebi, hm1, bd_s, if_neg hnp, eaw, if_pos (show nI 0 = 0 from rfl), et, if_pos h90, mt, bd_s]
      simp only [lt1]
      rw [if_pos hc3, ← et, hm0, em2, em3, f1, bd2_s]
      simp only [jn]
      rw [gI_y ⟨rfl, rfl⟩, if_pos (show nI sb = 3 by rw [hsb3]; rfl), if_pos (show isB (1 : Int32) from Or.inr rfl), gI_y ⟨rfl, rfl⟩, if_neg (by decide), gI_n (by omega), gI_n (by omega), gI_n (by omega), em22]
      rw [li0, li1, g1]; rfl
end P1
