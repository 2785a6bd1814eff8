/-! quiet: the answers -/
section Q6
variable {L : List Nat} {W : Nat → Nat} {N : Nat → List cls} {x m x' m' m0 : gMem}
theorem op_quiet (H : Rel L W N x m) (p0 p1 : Int32) : Op L W N (f_X11_quiet L x p0 p1) (f_X12_quiet m p0 p1) := by
  obtain ⟨n, hn, en, hW⟩ := H.2.1
  unfold f_X11_quiet f_X12_quiet
  rw [x_find H hn en, m_isWalker hn en, m_in0 p1 1 2 rfl]
  rcases p_in p0 n (by omega) with ⟨i, hi, rfl⟩ | h | h
  rotate_left
  · exact ⟨-1, x, m, by simp (disch := omega) only [lt1, jn, bd_s, bd2_s, oc_s, oc_n, li0, li1, li2, li3, li4, li5, li6, li7, li8, li9, li10, li11, li12, li13, li14, li16, li20, li21, li22, li24, li30, li31, li33, li38, li39, li40, li41, li45, li48, li50, li51, li57, li58, li59, li60, li61, li62, li64, li70, li71, li72, li99, li100, li101, li104, li107, li109, li116, li120, li121, li124, li127, li128, li144, li255, li300, li360, li372, li396, li600, li999, li1000, li9960, li9990, li1000000, nI_1, nI_add, pk_sub, pk_mul, pk_div, rem_nI, i_lt, i_le, i_eq, okI, ix, isB, nI_clamp, nI_toInt, tneg, gI_sI, gR_sI, gJ_sI, gI_sR, gR_sR, gJ_sR, gI_sJ, gR_sJ, gJ_sJ, true_and, and_true, false_and, and_false, if_true, if_false, if_pos, if_neg], by simp (disch := omega) only [lt1, jn, bd_s, bd2_s, oc_s, oc_n, li0, li1, li2, li3, li4, li5, li6, li7, li8, li9, li10, li11, li12, li13, li14, li16, li20, li21, li22, li24, li30, li31, li33, li38, li39, li40, li41, li45, li48, li50, li51, li57, li58, li59, li60, li61, li62, li64, li70, li71, li72, li99, li100, li101, li104, li107, li109, li116, li120, li121, li124, li127, li128, li144, li255, li300, li360, li372, li396, li600, li999, li1000, li9960, li9990, li1000000, nI_1, nI_add, pk_sub, pk_mul, pk_div, rem_nI, i_lt, i_le, i_eq, okI, ix, isB, nI_clamp, nI_toInt, tneg, gI_sI, gR_sI, gJ_sI, gI_sR, gR_sR, gJ_sR, gI_sJ, gR_sJ, gJ_sJ, true_and, and_true, false_and, and_false, if_true, if_false, if_pos, if_neg], H⟩
  · exact ⟨-1, x, m, by simp (disch := omega) only [lt1, jn, bd_s, bd2_s, oc_s, oc_n, li0, li1, li2, li3, li4, li5, li6, li7, li8, li9, li10, li11, li12, li13, li14, li16, li20, li21, li22, li24, li30, li31, li33, li38, li39, li40, li41, li45, li48, li50, li51, li57, li58, li59, li60, li61, li62, li64, li70, li71, li72, li99, li100, li101, li104, li107, li109, li116, li120, li121, li124, li127, li128, li144, li255, li300, li360, li372, li396, li600, li999, li1000, li9960, li9990, li1000000, nI_1, nI_add, pk_sub, pk_mul, pk_div, rem_nI, i_lt, i_le, i_eq, okI, ix, isB, nI_clamp, nI_toInt, tneg, gI_sI, gR_sI, gJ_sI, gI_sR, gR_sR, gJ_sR, gI_sJ, gR_sJ, gJ_sJ, true_and, and_true, false_and, and_false, if_true, if_false, if_pos, if_neg], by simp (disch := omega) only [lt1, jn, bd_s, bd2_s, oc_s, oc_n, li0, li1, li2, li3, li4, li5, li6, li7, li8, li9, li10, li11, li12, li13, li14, li16, li20, li21, li22, li24, li30, li31, li33, li38, li39, li40, li41, li45, li48, li50, li51, li57, li58, li59, li60, li61, li62, li64, li70, li71, li72, li99, li100, li101, li104, li107, li109, li116, li120, li121, li124, li127, li128, li144, li255, li300, li360, li372, li396, li600, li999, li1000, li9960, li9990, li1000000, nI_1, nI_add, pk_sub, pk_mul, pk_div, rem_nI, i_lt, i_le, i_eq, okI, ix, isB, nI_clamp, nI_toInt, tneg, gI_sI, gR_sI, gJ_sI, gI_sR, gR_sR, gJ_sR, gI_sJ, gR_sJ, gJ_sJ, true_and, and_true, false_and, and_false, if_true, if_false, if_pos, if_neg], H⟩
  obtain ⟨q1, q2, q3, q4, q5, q6, q7, ⟨b, hb, eb⟩, q9⟩ := hW.1 i hi
  have hw := eq_true q1
  rcases p_in p1 2 (by decide) with ⟨p, hp, rfl⟩ | h | h
  rotate_left
  · exact ⟨-1, x, m, by simp (disch := omega) only [lt1, jn, bd_s, bd2_s, oc_s, oc_n, li0, li1, li2, li3, li4, li5, li6, li7, li8, li9, li10, li11, li12, li13, li14, li16, li20, li21, li22, li24, li30, li31, li33, li38, li39, li40, li41, li45, li48, li50, li51, li57, li58, li59, li60, li61, li62, li64, li70, li71, li72, li99, li100, li101, li104, li107, li109, li116, li120, li121, li124, li127, li128, li144, li255, li300, li360, li372, li396, li600, li999, li1000, li9960, li9990, li1000000, nI_1, nI_add, pk_sub, pk_mul, pk_div, rem_nI, i_lt, i_le, i_eq, okI, ix, isB, nI_clamp, nI_toInt, tneg, gI_sI, gR_sI, gJ_sI, gI_sR, gR_sR, gJ_sR, gI_sJ, gR_sJ, gJ_sJ, true_and, and_true, false_and, and_false, if_true, if_false, if_pos, if_neg, hw], by simp (disch := omega) only [lt1, jn, bd_s, bd2_s, oc_s, oc_n, li0, li1, li2, li3, li4, li5, li6, li7, li8, li9, li10, li11, li12, li13, li14, li16, li20, li21, li22, li24, li30, li31, li33, li38, li39, li40, li41, li45, li48, li50, li51, li57, li58, li59, li60, li61, li62, li64, li70, li71, li72, li99, li100, li101, li104, li107, li109, li116, li120, li121, li124, li127, li128, li144, li255, li300, li360, li372, li396, li600, li999, li1000, li9960, li9990, li1000000, nI_1, nI_add, pk_sub, pk_mul, pk_div, rem_nI, i_lt, i_le, i_eq, okI, ix, isB, nI_clamp, nI_toInt, tneg, gI_sI, gR_sI, gJ_sI, gI_sR, gR_sR, gJ_sR, gI_sJ, gR_sJ, gJ_sJ, true_and, and_true, false_and, and_false, if_true, if_false, if_pos, if_neg], H⟩
  · exact ⟨-1, x, m, by simp (disch := omega) only [lt1, jn, bd_s, bd2_s, oc_s, oc_n, li0, li1, li2, li3, li4, li5, li6, li7, li8, li9, li10, li11, li12, li13, li14, li16, li20, li21, li22, li24, li30, li31, li33, li38, li39, li40, li41, li45, li48, li50, li51, li57, li58, li59, li60, li61, li62, li64, li70, li71, li72, li99, li100, li101, li104, li107, li109, li116, li120, li121, li124, li127, li128, li144, li255, li300, li360, li372, li396, li600, li999, li1000, li9960, li9990, li1000000, nI_1, nI_add, pk_sub, pk_mul, pk_div, rem_nI, i_lt, i_le, i_eq, okI, ix, isB, nI_clamp, nI_toInt, tneg, gI_sI, gR_sI, gJ_sI, gI_sR, gR_sR, gJ_sR, gI_sJ, gR_sJ, gJ_sJ, true_and, and_true, false_and, and_false, if_true, if_false, if_pos, if_neg, hw], by simp (disch := omega) only [lt1, jn, bd_s, bd2_s, oc_s, oc_n, li0, li1, li2, li3, li4, li5, li6, li7, li8, li9, li10, li11, li12, li13, li14, li16, li20, li21, li22, li24, li30, li31, li33, li38, li39, li40, li41, li45, li48, li50, li51, li57, li58, li59, li60, li61, li62, li64, li70, li71, li72, li99, li100, li101, li104, li107, li109, li116, li120, li121, li124, li127, li128, li144, li255, li300, li360, li372, li396, li600, li999, li1000, li9960, li9990, li1000000, nI_1, nI_add, pk_sub, pk_mul, pk_div, rem_nI, i_lt, i_le, i_eq, okI, ix, isB, nI_clamp, nI_toInt, tneg, gI_sI, gR_sI, gJ_sI, gI_sR, gR_sR, gJ_sR, gI_sJ, gR_sJ, gJ_sJ, true_and, and_true, false_and, and_false, if_true, if_false, if_pos, if_neg], H⟩
  obtain ⟨t, ht, et⟩ : rg (gI m 0 1) 9992 := H.1.2.2.2.1
  obtain ⟨d, hd, ed⟩ : rg (gI m 0 4) 11 := H.1.2.2.2.2.2.2.1
  obtain ⟨x1, e1, H1, L1, k1⟩ := x_learn H hn en hi ed
  obtain ⟨-, -, -, -, -, -, w7, -, -⟩ := (H1.2.1.w en hn).1 i hi
  have ex4 : gI x1 10 4 = gI m 0 1 := H1.1.1.2.2.2.1
  have hnz : ∀ o t, o < 12 → nzO N W m i o t ≤ 1030 := fun o t ho => (H.mn hn en hi).le ho t
  have o1 : okQ x1 (gsI (gsI x1 32 8 (1000000 : Int32)) 32 9 (0 : Int32)) := ⟨fun o k q => by rw [gI_n (by omega), gI_n (by omega)], fun _ _ => rfl, fun _ _ => rfl⟩
  obtain ⟨x2, b2, s1, s2, s3, s4, s5, s6, s7⟩ := x_seek (L := L) (t0 := t) (tmN_le _) hnz (show d < 12 by omega) (by omega) (fun o t => nzO_mod i o t) 12 b 0 0 0 (gsI (gsI x1 32 8 (1000000 : Int32)) 32 9 (0 : Int32)) (1000000, 0) (L1.fQ o1) (by omega) (by omega) rfl (by omega) (by omega) (by rw [gI_n (by omega), gI_y ⟨rfl, rfl⟩]; rfl) (gI_y ⟨rfl, rfl⟩) (Nat.le_refl _) (by omega)
  obtain ⟨m2, b3, r1, r2, r3, r4⟩ := m_layQuiet (H.mn hn en hi) eb (by omega) et (by omega) ed (show d < 12 by omega)
  have hbb : b2 = b3 := Best.uniq s7 r4
  subst hbb
  obtain ⟨e, he1, he2⟩ := rbv_rch (nz := nzO N W m i) (tm := tmN (wkd (W i))) (dr := d) (t0 := t) hnz 8 12 b 0 0 0 (rbv_all b (by omega) d (by omega)) (by omega) (by omega)
  have hle := s7.2.2 e he1
  have hlt : b2.1 < 1000000 := by
    unfold le2 at hle
    omega
  have hq : gI m2 0 39 = nI b2.1 ∧ gI m2 0 40 = nI b2.2 := by
    rcases r3 with ⟨z, _⟩ | ⟨_, _, z1, z2⟩
    · rw [z] at hlt
      exact absurd hlt (by decide)
    · exact ⟨z1, z2⟩
  have hR : Rel L W N x2 m2 := H1.fr (o1.trans s2).ag r2.ag
  have hst : f_X10_seekQuietest L x1 (nI b) (nI t) = some x2 := by
    have e0 : t + 0 * tmN (wkd (W i)) = t := by omega
    rw [e0, show (2 : Nat) * 12 = 24 from rfl, ← (setb (T := 0) (b := b) (show b < 12 by omega) (by decide)).1, show nI 0 ||| ((1 : Int32) <<< (nI b &&& 31)) = (1 : Int32) <<< (nI b &&& 31) by rw [← li0]; exact Int32.zero_or] at s1
    unfold f_X10_seekQuietest f_X10_seekAt
    rw [lt1_s, lt1_s]
    exact (congrArg (fun z => bd z fun (m3 : gMem) => some m3) s1).trans rfl
  have hxl : ¬ nI p < 0 := nI_pos (by omega)
  have hx1 : nI p ≤ (1 : Int32) := nI_le (b := 1) (by omega) (by decide)
  refine ⟨nI (if p = 0 then b2.1 else b2.2), x2, m2, ?_, ?_, hR⟩
  · rw [if_pos (okN hi (by omega)), bd_s, oc_s, ixN (by omega), if_pos q1, if_neg hxl, if_pos hx1, e1, bd_s, w7, eb, ex4, et, hst, bd_s, s3, s4]
    by_cases hp0 : p = 0
    · subst hp0; rw [if_pos rfl, if_pos (show nI 0 = 0 from rfl)]
    · rw [if_neg (nI_ne0 (by omega) (by omega)), if_neg hp0]
  · rw [if_pos (okN hi (by omega)), bd_s, if_neg (by decide), if_pos (okN hp (by decide)), bd_s, if_neg (by decide), r1, bd_s, hq.1, hq.2]
    by_cases hp0 : p = 0
    · subst hp0; rw [if_pos rfl, if_pos (show nI 0 = 0 from rfl)]
    · rw [if_neg (nI_ne0 (by omega) (by omega)), if_neg hp0]
end Q6
