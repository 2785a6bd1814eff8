/-! looked, who, mean -/
section P2
variable {L : List Nat} {W : Nat → Nat} {N : Nat → List cls} {x m x' m' : gMem}
theorem looked_loop : ∀ (d k f1 f2 : Nat) (x m : gMem), Rel L W N x m → d + k = 12 → d < f1 → d < f2 → Op L W N (lq2 (s_X11_looked_2 L) f1 (nI k) x) (lq2 s_X12_looked_2 f2 (nI k) m)
  | 0, k, f1, f2, x, m, H, h1, h2, h3 => by
    obtain ⟨f1, rfl⟩ : ∃ f, f1 = f + 1 := ⟨f1 - 1, by omega⟩
    obtain ⟨f2, rfl⟩ : ∃ f, f2 = f + 1 := ⟨f2 - 1, by omega⟩
    obtain ⟨c, hc, ec⟩ : rg (gI m 0 45) 12 := H.1.2.2.2.2.2.2.2.2.2.2.1
    have ex : gI x 10 14 = gI m 0 45 := H.1.1.2.2.2.2.2.2.2.2
    rw [lq2_u, lq2_u]
    generalize lq2 (s_X11_looked_2 L) f1 = F1
    generalize lq2 s_X12_looked_2 f2 = F2
    unfold s_X11_looked_2 s_X12_looked_2
    exact ⟨-5, x, m, by simp (disch := omega) only [lt1, jn, bd_s, bd2_s, oc_s, oc_n, li0, li1, li2, li3, li4, li5, li6, li7, li8, li9, li10, li11, li12, li13, li14, li16, li20, li21, li22, li24, li30, li31, li33, li38, li39, li40, li41, li45, li48, li50, li51, li57, li58, li59, li60, li61, li62, li64, li70, li71, li72, li99, li100, li101, li104, li107, li109, li116, li120, li121, li124, li127, li128, li144, li255, li300, li360, li372, li396, li600, li999, li1000, li9960, li9990, li1000000, nI_1, nI_add, pk_sub, pk_mul, pk_div, rem_nI, i_lt, i_le, i_eq, okI, ix, isB, nI_clamp, nI_toInt, tneg, gI_sI, gR_sI, gJ_sI, gI_sR, gR_sR, gJ_sR, gI_sJ, gR_sJ, gJ_sJ, true_and, and_true, false_and, and_false, if_true, if_false, if_pos, if_neg, ex, ec], by simp (disch := omega) only [lt1, jn, bd_s, bd2_s, oc_s, oc_n, li0, li1, li2, li3, li4, li5, li6, li7, li8, li9, li10, li11, li12, li13, li14, li16, li20, li21, li22, li24, li30, li31, li33, li38, li39, li40, li41, li45, li48, li50, li51, li57, li58, li59, li60, li61, li62, li64, li70, li71, li72, li99, li100, li101, li104, li107, li109, li116, li120, li121, li124, li127, li128, li144, li255, li300, li360, li372, li396, li600, li999, li1000, li9960, li9990, li1000000, nI_1, nI_add, pk_sub, pk_mul, pk_div, rem_nI, i_lt, i_le, i_eq, okI, ix, isB, nI_clamp, nI_toInt, tneg, gI_sI, gR_sI, gJ_sI, gI_sR, gR_sR, gJ_sR, gI_sJ, gR_sJ, gJ_sJ, true_and, and_true, false_and, and_false, if_true, if_false, if_pos, if_neg, ec], H⟩
  | d + 1, k, f1, f2, x, m, H, h1, h2, h3 => by
    obtain ⟨f1, rfl⟩ : ∃ f, f1 = f + 1 := ⟨f1 - 1, by omega⟩
    obtain ⟨f2, rfl⟩ : ∃ f, f2 = f + 1 := ⟨f2 - 1, by omega⟩
    obtain ⟨c, hc, ec⟩ : rg (gI m 0 45) 12 := H.1.2.2.2.2.2.2.2.2.2.2.1
    have ex : gI x 10 14 = gI m 0 45 := H.1.1.2.2.2.2.2.2.2.2
    obtain ⟨t, ht, et⟩ : rg (gI m 0 1) 9992 := H.1.2.2.2.1
    have ex4 : gI x 10 4 = gI m 0 1 := H.1.1.2.2.2.1
    have hk : k < 12 := by omega
    have eb : gI x 16 k = gI m 24 k := H.1.2.1.2.2.2.2.2 k hk
    obtain ⟨v, hv, ev⟩ : rg (gI m 24 k) 999 := H.1.2.2.2.2.2.2.2.2.2.2.2.2.2.2.2.2 k hk
    obtain ⟨x1, e1, e2⟩ := H.xdepth (t := t + k + 1) (by omega)
    obtain ⟨m1, g1, g2⟩ := H.mdepth (t := t + k + 1) (by omega)
    have H1 := H.kp e2 g2
    have ih := looked_loop d (k + 1) f1 f2 x1 m1 H1 (by omega) (by omega) (by omega)
    have hd := dep_le H.2.2.2.2.1 H.2.2.2.2.2.1 (t + k + 1)
    have eb1 : gI x1 16 k = nI v := (e2.1 _ _ (by omega)).trans (eb.trans ev)
    have ev1 : gI m1 24 k = nI v := (g2.1 _ _ (by omega)).trans ev
    rw [lq2_u, lq2_u]
    generalize lq2 (s_X11_looked_2 L) f1 = F1 at ih ⊢
    generalize lq2 s_X12_looked_2 f2 = F2 at ih ⊢
    unfold s_X11_looked_2 s_X12_looked_2
    by_cases hkc : k < c
    · by_cases hq : depN (curP N m) (t + k + 1) = v
      · obtain ⟨a, x', m', r1, r2, r3⟩ := ih
        exact ⟨a, x', m', by rw [← r1]; simp (disch := omega) only [lt1, jn, bd_s, bd2_s, oc_s, oc_n, li0, li1, li2, li3, li4, li5, li6, li7, li8, li9, li10, li11, li12, li13, li14, li16, li20, li21, li22, li24, li30, li31, li33, li38, li39, li40, li41, li45, li48, li50, li51, li57, li58, li59, li60, li61, li62, li64, li70, li71, li72, li99, li100, li101, li104, li107, li109, li116, li120, li121, li124, li127, li128, li144, li255, li300, li360, li372, li396, li600, li999, li1000, li9960, li9990, li1000000, nI_1, nI_add, pk_sub, pk_mul, pk_div, rem_nI, i_lt, i_le, i_eq, okI, ix, isB, nI_clamp, nI_toInt, tneg, gI_sI, gR_sI, gJ_sI, gI_sR, gR_sR, gJ_sR, gI_sJ, gR_sJ, gJ_sJ, true_and, and_true, false_and, and_false, if_true, if_false, if_pos, if_neg, ex, ec, ex4, et, e1, eb, ev], by rw [← r2]; simp (disch := omega) only [lt1, jn, bd_s, bd2_s, oc_s, oc_n, li0, li1, li2, li3, li4, li5, li6, li7, li8, li9, li10, li11, li12, li13, li14, li16, li20, li21, li22, li24, li30, li31, li33, li38, li39, li40, li41, li45, li48, li50, li51, li57, li58, li59, li60, li61, li62, li64, li70, li71, li72, li99, li100, li101, li104, li107, li109, li116, li120, li121, li124, li127, li128, li144, li255, li300, li360, li372, li396, li600, li999, li1000, li9960, li9990, li1000000, nI_1, nI_add, pk_sub, pk_mul, pk_div, rem_nI, i_lt, i_le, i_eq, okI, ix, isB, nI_clamp, nI_toInt, tneg, gI_sI, gR_sI, gJ_sI, gI_sR, gR_sR, gJ_sR, gI_sJ, gR_sJ, gJ_sJ, true_and, and_true, false_and, and_false, if_true, if_false, if_pos, if_neg, ec, et, g1, ev1], r3⟩
      · exact ⟨nI k, x1, m1, by simp (disch := omega) only [lt1, jn, bd_s, bd2_s, oc_s, oc_n, li0, li1, li2, li3, li4, li5, li6, li7, li8, li9, li10, li11, li12, li13, li14, li16, li20, li21, li22, li24, li30, li31, li33, li38, li39, li40, li41, li45, li48, li50, li51, li57, li58, li59, li60, li61, li62, li64, li70, li71, li72, li99, li100, li101, li104, li107, li109, li116, li120, li121, li124, li127, li128, li144, li255, li300, li360, li372, li396, li600, li999, li1000, li9960, li9990, li1000000, nI_1, nI_add, pk_sub, pk_mul, pk_div, rem_nI, i_lt, i_le, i_eq, okI, ix, isB, nI_clamp, nI_toInt, tneg, gI_sI, gR_sI, gJ_sI, gI_sR, gR_sR, gJ_sR, gI_sJ, gR_sJ, gJ_sJ, true_and, and_true, false_and, and_false, if_true, if_false, if_pos, if_neg, ex, ec, ex4, et, e1, eb, ev], by simp (disch := omega) only [lt1, jn, bd_s, bd2_s, oc_s, oc_n, li0, li1, li2, li3, li4, li5, li6, li7, li8, li9, li10, li11, li12, li13, li14, li16, li20, li21, li22, li24, li30, li31, li33, li38, li39, li40, li41, li45, li48, li50, li51, li57, li58, li59, li60, li61, li62, li64, li70, li71, li72, li99, li100, li101, li104, li107, li109, li116, li120, li121, li124, li127, li128, li144, li255, li300, li360, li372, li396, li600, li999, li1000, li9960, li9990, li1000000, nI_1, nI_add, pk_sub, pk_mul, pk_div, rem_nI, i_lt, i_le, i_eq, okI, ix, isB, nI_clamp, nI_toInt, tneg, gI_sI, gR_sI, gJ_sI, gI_sR, gR_sR, gJ_sR, gI_sJ, gR_sJ, gJ_sJ, true_and, and_true, false_and, and_false, if_true, if_false, if_pos, if_neg, ec, et, g1, ev1], H1⟩
    · exact ⟨-5, x, m, by simp (disch := omega) only [lt1, jn, bd_s, bd2_s, oc_s, oc_n, li0, li1, li2, li3, li4, li5, li6, li7, li8, li9, li10, li11, li12, li13, li14, li16, li20, li21, li22, li24, li30, li31, li33, li38, li39, li40, li41, li45, li48, li50, li51, li57, li58, li59, li60, li61, li62, li64, li70, li71, li72, li99, li100, li101, li104, li107, li109, li116, li120, li121, li124, li127, li128, li144, li255, li300, li360, li372, li396, li600, li999, li1000, li9960, li9990, li1000000, nI_1, nI_add, pk_sub, pk_mul, pk_div, rem_nI, i_lt, i_le, i_eq, okI, ix, isB, nI_clamp, nI_toInt, tneg, gI_sI, gR_sI, gJ_sI, gI_sR, gR_sR, gJ_sR, gI_sJ, gR_sJ, gJ_sJ, true_and, and_true, false_and, and_false, if_true, if_false, if_pos, if_neg, ex, ec], by simp (disch := omega) only [lt1, jn, bd_s, bd2_s, oc_s, oc_n, li0, li1, li2, li3, li4, li5, li6, li7, li8, li9, li10, li11, li12, li13, li14, li16, li20, li21, li22, li24, li30, li31, li33, li38, li39, li40, li41, li45, li48, li50, li51, li57, li58, li59, li60, li61, li62, li64, li70, li71, li72, li99, li100, li101, li104, li107, li109, li116, li120, li121, li124, li127, li128, li144, li255, li300, li360, li372, li396, li600, li999, li1000, li9960, li9990, li1000000, nI_1, nI_add, pk_sub, pk_mul, pk_div, rem_nI, i_lt, i_le, i_eq, okI, ix, isB, nI_clamp, nI_toInt, tneg, gI_sI, gR_sI, gJ_sI, gI_sR, gR_sR, gJ_sR, gI_sJ, gR_sJ, gJ_sJ, true_and, and_true, false_and, and_false, if_true, if_false, if_pos, if_neg, ec], H⟩
theorem op_looked (H : Rel L W N x m) : Op L W N (f_X11_looked L x) (f_X12_looked m) := looked_loop 12 0 1000 1000 x m H rfl (by decide) (by decide)
/-- one's NOISE fits all of SEEN -/
theorem fits_loop {n i : Nat} (hn : n ≤ 4) (hi : i < n) (j5 : Int32 → gMem → Option (Int32 × gMem)) : ∀ (d k f1 f2 : Nat) (x m : gMem), Rel L W N x m → gI m 0 0 = nI n → d + k = 6 → d < f1 → d + 1 < f2 → ∃ (b : Bool) (x' m' : gMem), lq2 (s_X2_fitsSeen_2 L (W i)) f1 (nI k) x = some (nI (if b then 1 else 0), x') ∧ lq3 (s_X12_who_17 j5 (nI i)) f2 1 (nI k) m = j5 (nI (if b then 1 else 0)) m' ∧ Rel L W N x' m' ∧ gI m' 0 0 = nI n
  | 0, k, f1, f2, x, m, H, en, h1, h2, h3 => by
    obtain ⟨f1, rfl⟩ : ∃ f, f1 = f + 1 := ⟨f1 - 1, by omega⟩
    obtain ⟨f2, rfl⟩ : ∃ f, f2 = f + 1 := ⟨f2 - 1, by omega⟩
    obtain ⟨c, hc, ec⟩ : rg (gI m 0 41) 6 := H.1.2.2.2.2.2.2.2.2.2.1
    have ex : gI x 10 12 = gI m 0 41 := H.1.1.2.2.2.2.2.2.2.1
    rw [lq2_u, lq3_u]
    generalize lq2 (s_X2_fitsSeen_2 L (W i)) f1 = F1
    generalize lq3 (s_X12_who_17 j5 (nI i)) f2 = F2
    unfold s_X2_fitsSeen_2 s_X12_who_17
    exact ⟨true, x, m, by simp (disch := omega) only [lt1, jn, bd_s, bd2_s, oc_s, oc_n, li0, li1, li2, li3, li4, li5, li6, li7, li8, li9, li10, li11, li12, li13, li14, li16, li20, li21, li22, li24, li30, li31, li33, li38, li39, li40, li41, li45, li48, li50, li51, li57, li58, li59, li60, li61, li62, li64, li70, li71, li72, li99, li100, li101, li104, li107, li109, li116, li120, li121, li124, li127, li128, li144, li255, li300, li360, li372, li396, li600, li999, li1000, li9960, li9990, li1000000, nI_1, nI_add, pk_sub, pk_mul, pk_div, rem_nI, i_lt, i_le, i_eq, okI, ix, isB, nI_clamp, nI_toInt, tneg, gI_sI, gR_sI, gJ_sI, gI_sR, gR_sR, gJ_sR, gI_sJ, gR_sJ, gJ_sJ, true_and, and_true, false_and, and_false, if_true, if_false, if_pos, if_neg, ex, ec], by simp (disch := omega) only [lt1, jn, bd_s, bd2_s, oc_s, oc_n, li0, li1, li2, li3, li4, li5, li6, li7, li8, li9, li10, li11, li12, li13, li14, li16, li20, li21, li22, li24, li30, li31, li33, li38, li39, li40, li41, li45, li48, li50, li51, li57, li58, li59, li60, li61, li62, li64, li70, li71, li72, li99, li100, li101, li104, li107, li109, li116, li120, li121, li124, li127, li128, li144, li255, li300, li360, li372, li396, li600, li999, li1000, li9960, li9990, li1000000, nI_1, nI_add, pk_sub, pk_mul, pk_div, rem_nI, i_lt, i_le, i_eq, okI, ix, isB, nI_clamp, nI_toInt, tneg, gI_sI, gR_sI, gJ_sI, gI_sR, gR_sR, gJ_sR, gI_sJ, gR_sJ, gJ_sJ, true_and, and_true, false_and, and_false, if_true, if_false, if_pos, if_neg, ec], H, en⟩
  | d + 1, k, f1, f2, x, m, H, en, h1, h2, h3 => by
    obtain ⟨f1, rfl⟩ : ∃ f, f1 = f + 1 := ⟨f1 - 1, by omega⟩
    obtain ⟨f2, rfl⟩ : ∃ f, f2 = f + 1 := ⟨f2 - 1, by omega⟩
    obtain ⟨c, hc, ec⟩ : rg (gI m 0 41) 6 := H.1.2.2.2.2.2.2.2.2.2.1
    have ex : gI x 10 12 = gI m 0 41 := H.1.1.2.2.2.2.2.2.2.1
    obtain ⟨t, ht, et⟩ : rg (gI m 0 1) 9992 := H.1.2.2.2.1
    have ex4 : gI x 10 4 = gI m 0 1 := H.1.1.2.2.2.1
    have hk : k < 6 := by omega
    obtain ⟨b, hb, eb⟩ : rg (gI m 21 k) 11 := H.1.2.2.2.2.2.2.2.2.2.2.2.2.2.1 k hk
    obtain ⟨w, hw, ew⟩ : rg (gI m 22 k) 30 := H.1.2.2.2.2.2.2.2.2.2.2.2.2.2.2.1 k hk
    obtain ⟨z, hz, ez⟩ : rg (gI m 23 k) 1 := H.1.2.2.2.2.2.2.2.2.2.2.2.2.2.2.2.1 k hk
    have xb : gI x 13 k = gI m 21 k := H.1.2.1.2.2.1 k hk
    have xw : gI x 14 k = gI m 22 k := H.1.2.1.2.2.2.1 k hk
    have xz : gI x 15 k = gI m 23 k := H.1.2.1.2.2.2.2.1 k hk
    obtain ⟨x1, e1, e2⟩ := H.xnoise hn en hi (b := b) (t := t + w) (by omega) (by omega)
    obtain ⟨m1, g1, g2⟩ := H.mnoise hn en hi (b := b) (t := t + w) (by omega) (by omega)
    have H1 := H.kp e2 g2
    obtain ⟨x2, e3, e4⟩ := H1.xdepth (t := t + w) (by omega)
    obtain ⟨m2, g3, g4⟩ := H1.mdepth (t := t + w) (by omega)
    have H2 := H1.kp e4 g4
    have en2 : gI m2 0 0 = nI n := ((g4.1 _ _ (by omega)).trans (g2.1 _ _ (by omega))).trans en
    rw [curP_fr (N := N) (g2.1 0 12 (by omega))] at e3 g3
    have hd := dep_le H.2.2.2.2.1 H.2.2.2.2.2.1 (t + w)
    have hl : nzO N W m i b (t + w) ≤ 1030 := (H.mn hn en hi).le (by omega) _
    have xz2 : gI x2 15 k = nI z := ((e4.1 _ _ (by omega)).trans (e2.1 _ _ (by omega))).trans (xz.trans ez)
    have mz2 : gI m2 23 k = nI z := ((g4.1 _ _ (by omega)).trans (g2.1 _ _ (by omega))).trans ez
    have et1 : gI m1 0 1 = nI t := (g2.1 _ _ (by omega)).trans et
    have ew1 : gI m1 22 k = nI w := (g2.1 _ _ (by omega)).trans ew
    obtain ⟨b', x', m', r1, r2, r3, r4⟩ := fits_loop hn hi j5 d (k + 1) f1 f2 x2 m2 H2 en2 (by omega) (by omega) (by omega)
    obtain ⟨c2, hc2, ec2⟩ : rg (gI m2 0 41) 6 := H2.1.2.2.2.2.2.2.2.2.2.1
    have zero : f2 ≥ 1 → lq3 (s_X12_who_17 j5 (nI i)) f2 (nI 0) (nI (k + 1)) m2 = j5 (nI 0) m2 := by
      intro hf
      obtain ⟨f3, rfl⟩ : ∃ f, f2 = f + 1 := ⟨f2 - 1, by omega⟩
      rw [lq3_u]
      generalize lq3 (s_X12_who_17 j5 (nI i)) f3 = F2
      unfold s_X12_who_17
      by_cases hq : c2 ≤ k + 1 <;> simp (disch := omega) only [lt1, jn, bd_s, bd2_s, oc_s, oc_n, li0, li1, li2, li3, li4, li5, li6, li7, li8, li9, li10, li11, li12, li13, li14, li16, li20, li21, li22, li24, li30, li31, li33, li38, li39, li40, li41, li45, li48, li50, li51, li57, li58, li59, li60, li61, li62, li64, li70, li71, li72, li99, li100, li101, li104, li107, li109, li116, li120, li121, li124, li127, li128, li144, li255, li300, li360, li372, li396, li600, li999, li1000, li9960, li9990, li1000000, nI_1, nI_add, pk_sub, pk_mul, pk_div, rem_nI, i_lt, i_le, i_eq, okI, ix, isB, nI_clamp, nI_toInt, tneg, gI_sI, gR_sI, gJ_sI, gI_sR, gR_sR, gJ_sR, gI_sJ, gR_sJ, gJ_sJ, true_and, and_true, false_and, and_false, if_true, if_false, if_pos, if_neg, ec2]
    have zero := zero (by omega)
    rw [li1] at r2
    rw [lq2_u, lq3_u]
    generalize lq2 (s_X2_fitsSeen_2 L (W i)) f1 = F1 at r1 ⊢
    generalize lq3 (s_X12_who_17 j5 (nI i)) f2 = F2 at r2 zero ⊢
    unfold s_X2_fitsSeen_2 s_X12_who_17
    by_cases hkc : k < c
    · by_cases hq : nzO N W m i b (t + w) ≤ depN (curP N m) (t + w)
      · rcases (show z = 0 ∨ z = 1 by omega) with rfl | rfl
        · exact ⟨b', x', m', by rw [← r1]; simp (disch := omega) only [lt1, jn, bd_s, bd2_s, oc_s, oc_n, li0, li1, li2, li3, li4, li5, li6, li7, li8, li9, li10, li11, li12, li13, li14, li16, li20, li21, li22, li24, li30, li31, li33, li38, li39, li40, li41, li45, li48, li50, li51, li57, li58, li59, li60, li61, li62, li64, li70, li71, li72, li99, li100, li101, li104, li107, li109, li116, li120, li121, li124, li127, li128, li144, li255, li300, li360, li372, li396, li600, li999, li1000, li9960, li9990, li1000000, nI_1, nI_add, pk_sub, pk_mul, pk_div, rem_nI, i_lt, i_le, i_eq, okI, ix, isB, nI_clamp, nI_toInt, tneg, gI_sI, gR_sI, gJ_sI, gI_sR, gR_sR, gJ_sR, gI_sJ, gR_sJ, gJ_sJ, true_and, and_true, false_and, and_false, if_true, if_false, if_pos, if_neg, ex, ec, ex4, et, xw, ew, xb, eb, e1, e3, xz2], by rw [← r2]; simp (disch := omega) only [lt1, jn, bd_s, bd2_s, oc_s, oc_n, li0, li1, li2, li3, li4, li5, li6, li7, li8, li9, li10, li11, li12, li13, li14, li16, li20, li21, li22, li24, li30, li31, li33, li38, li39, li40, li41, li45, li48, li50, li51, li57, li58, li59, li60, li61, li62, li64, li70, li71, li72, li99, li100, li101, li104, li107, li109, li116, li120, li121, li124, li127, li128, li144, li255, li300, li360, li372, li396, li600, li999, li1000, li9960, li9990, li1000000, nI_1, nI_add, pk_sub, pk_mul, pk_div, rem_nI, i_lt, i_le, i_eq, okI, ix, isB, nI_clamp, nI_toInt, tneg, gI_sI, gR_sI, gJ_sI, gI_sR, gR_sR, gJ_sR, gI_sJ, gR_sJ, gJ_sJ, true_and, and_true, false_and, and_false, if_true, if_false, if_pos, if_neg, ec, et, ew, eb, g1, et1, ew1, g3, mz2], r3, r4⟩
        · exact ⟨false, x2, m2, by simp only [Bool.false_eq_true]; simp (disch := omega) only [lt1, jn, bd_s, bd2_s, oc_s, oc_n, li0, li1, li2, li3, li4, li5, li6, li7, li8, li9, li10, li11, li12, li13, li14, li16, li20, li21, li22, li24, li30, li31, li33, li38, li39, li40, li41, li45, li48, li50, li51, li57, li58, li59, li60, li61, li62, li64, li70, li71, li72, li99, li100, li101, li104, li107, li109, li116, li120, li121, li124, li127, li128, li144, li255, li300, li360, li372, li396, li600, li999, li1000, li9960, li9990, li1000000, nI_1, nI_add, pk_sub, pk_mul, pk_div, rem_nI, i_lt, i_le, i_eq, okI, ix, isB, nI_clamp, nI_toInt, tneg, gI_sI, gR_sI, gJ_sI, gI_sR, gR_sR, gJ_sR, gI_sJ, gR_sJ, gJ_sJ, true_and, and_true, false_and, and_false, if_true, if_false, if_pos, if_neg, ex, ec, ex4, et, xw, ew, xb, eb, e1, e3, xz2], by simp only [Bool.false_eq_true, if_false]; rw [← zero]; simp (disch := omega) only [lt1, jn, bd_s, bd2_s, oc_s, oc_n, li0, li1, li2, li3, li4, li5, li6, li7, li8, li9, li10, li11, li12, li13, li14, li16, li20, li21, li22, li24, li30, li31, li33, li38, li39, li40, li41, li45, li48, li50, li51, li57, li58, li59, li60, li61, li62, li64, li70, li71, li72, li99, li100, li101, li104, li107, li109, li116, li120, li121, li124, li127, li128, li144, li255, li300, li360, li372, li396, li600, li999, li1000, li9960, li9990, li1000000, nI_1, nI_add, pk_sub, pk_mul, pk_div, rem_nI, i_lt, i_le, i_eq, okI, ix, isB, nI_clamp, nI_toInt, tneg, gI_sI, gR_sI, gJ_sI, gI_sR, gR_sR, gJ_sR, gI_sJ, gR_sJ, gJ_sJ, true_and, and_true, false_and, and_false, if_true, if_false, if_pos, if_neg, ec, et, ew, eb, g1, et1, ew1, g3, mz2], H2, en2⟩
      · rcases (show z = 0 ∨ z = 1 by omega) with rfl | rfl
        · exact ⟨false, x2, m2, by simp only [Bool.false_eq_true]; simp (disch := omega) only [lt1, jn, bd_s, bd2_s, oc_s, oc_n, li0, li1, li2, li3, li4, li5, li6, li7, li8, li9, li10, li11, li12, li13, li14, li16, li20, li21, li22, li24, li30, li31, li33, li38, li39, li40, li41, li45, li48, li50, li51, li57, li58, li59, li60, li61, li62, li64, li70, li71, li72, li99, li100, li101, li104, li107, li109, li116, li120, li121, li124, li127, li128, li144, li255, li300, li360, li372, li396, li600, li999, li1000, li9960, li9990, li1000000, nI_1, nI_add, pk_sub, pk_mul, pk_div, rem_nI, i_lt, i_le, i_eq, okI, ix, isB, nI_clamp, nI_toInt, tneg, gI_sI, gR_sI, gJ_sI, gI_sR, gR_sR, gJ_sR, gI_sJ, gR_sJ, gJ_sJ, true_and, and_true, false_and, and_false, if_true, if_false, if_pos, if_neg, ex, ec, ex4, et, xw, ew, xb, eb, e1, e3, xz2], by simp only [Bool.false_eq_true, if_false]; rw [← zero]; simp (disch := omega) only [lt1, jn, bd_s, bd2_s, oc_s, oc_n, li0, li1, li2, li3, li4, li5, li6, li7, li8, li9, li10, li11, li12, li13, li14, li16, li20, li21, li22, li24, li30, li31, li33, li38, li39, li40, li41, li45, li48, li50, li51, li57, li58, li59, li60, li61, li62, li64, li70, li71, li72, li99, li100, li101, li104, li107, li109, li116, li120, li121, li124, li127, li128, li144, li255, li300, li360, li372, li396, li600, li999, li1000, li9960, li9990, li1000000, nI_1, nI_add, pk_sub, pk_mul, pk_div, rem_nI, i_lt, i_le, i_eq, okI, ix, isB, nI_clamp, nI_toInt, tneg, gI_sI, gR_sI, gJ_sI, gI_sR, gR_sR, gJ_sR, gI_sJ, gR_sJ, gJ_sJ, true_and, and_true, false_and, and_false, if_true, if_false, if_pos, if_neg, ec, et, ew, eb, g1, et1, ew1, g3, mz2], H2, en2⟩
        · exact ⟨b', x', m', by rw [← r1]; simp (disch := omega) only [lt1, jn, bd_s, bd2_s, oc_s, oc_n, li0, li1, li2, li3, li4, li5, li6, li7, li8, li9, li10, li11, li12, li13, li14, li16, li20, li21, li22, li24, li30, li31, li33, li38, li39, li40, li41, li45, li48, li50, li51, li57, li58, li59, li60, li61, li62, li64, li70, li71, li72, li99, li100, li101, li104, li107, li109, li116, li120, li121, li124, li127, li128, li144, li255, li300, li360, li372, li396, li600, li999, li1000, li9960, li9990, li1000000, nI_1, nI_add, pk_sub, pk_mul, pk_div, rem_nI, i_lt, i_le, i_eq, okI, ix, isB, nI_clamp, nI_toInt, tneg, gI_sI, gR_sI, gJ_sI, gI_sR, gR_sR, gJ_sR, gI_sJ, gR_sJ, gJ_sJ, true_and, and_true, false_and, and_false, if_true, if_false, if_pos, if_neg, ex, ec, ex4, et, xw, ew, xb, eb, e1, e3, xz2], by rw [← r2]; simp (disch := omega) only [lt1, jn, bd_s, bd2_s, oc_s, oc_n, li0, li1, li2, li3, li4, li5, li6, li7, li8, li9, li10, li11, li12, li13, li14, li16, li20, li21, li22, li24, li30, li31, li33, li38, li39, li40, li41, li45, li48, li50, li51, li57, li58, li59, li60, li61, li62, li64, li70, li71, li72, li99, li100, li101, li104, li107, li109, li116, li120, li121, li124, li127, li128, li144, li255, li300, li360, li372, li396, li600, li999, li1000, li9960, li9990, li1000000, nI_1, nI_add, pk_sub, pk_mul, pk_div, rem_nI, i_lt, i_le, i_eq, okI, ix, isB, nI_clamp, nI_toInt, tneg, gI_sI, gR_sI, gJ_sI, gI_sR, gR_sR, gJ_sR, gI_sJ, gR_sJ, gJ_sJ, true_and, and_true, false_and, and_false, if_true, if_false, if_pos, if_neg, ec, et, ew, eb, g1, et1, ew1, g3, mz2], r3, r4⟩
    · exact ⟨true, x, m, by simp (disch := omega) only [lt1, jn, bd_s, bd2_s, oc_s, oc_n, li0, li1, li2, li3, li4, li5, li6, li7, li8, li9, li10, li11, li12, li13, li14, li16, li20, li21, li22, li24, li30, li31, li33, li38, li39, li40, li41, li45, li48, li50, li51, li57, li58, li59, li60, li61, li62, li64, li70, li71, li72, li99, li100, li101, li104, li107, li109, li116, li120, li121, li124, li127, li128, li144, li255, li300, li360, li372, li396, li600, li999, li1000, li9960, li9990, li1000000, nI_1, nI_add, pk_sub, pk_mul, pk_div, rem_nI, i_lt, i_le, i_eq, okI, ix, isB, nI_clamp, nI_toInt, tneg, gI_sI, gR_sI, gJ_sI, gI_sR, gR_sR, gJ_sR, gI_sJ, gR_sJ, gJ_sJ, true_and, and_true, false_and, and_false, if_true, if_false, if_pos, if_neg, ex, ec], by simp (disch := omega) only [lt1, jn, bd_s, bd2_s, oc_s, oc_n, li0, li1, li2, li3, li4, li5, li6, li7, li8, li9, li10, li11, li12, li13, li14, li16, li20, li21, li22, li24, li30, li31, li33, li38, li39, li40, li41, li45, li48, li50, li51, li57, li58, li59, li60, li61, li62, li64, li70, li71, li72, li99, li100, li101, li104, li107, li109, li116, li120, li121, li124, li127, li128, li144, li255, li300, li360, li372, li396, li600, li999, li1000, li9960, li9990, li1000000, nI_1, nI_add, pk_sub, pk_mul, pk_div, rem_nI, i_lt, i_le, i_eq, okI, ix, isB, nI_clamp, nI_toInt, tneg, gI_sI, gR_sI, gJ_sI, gI_sR, gR_sR, gJ_sR, gI_sJ, gR_sJ, gJ_sJ, true_and, and_true, false_and, and_false, if_true, if_false, if_pos, if_neg, ec], H, en⟩
theorem who_loop {n : Nat} (hn : n ≤ 4) : ∀ (d k f1 f2 : Nat) (v : Int32) (x m : gMem), Rel L W N x m → gI m 0 0 = nI n → d + k = n → d < f1 → d < f2 → Op L W N (lq3 (s_X11_who_4 L) f1 v (nI k) x) (lq3 s_X12_who_4 f2 v (nI k) m)
  | 0, k, f1, f2, v, x, m, H, en, h1, h2, h3 => by
    obtain ⟨f1, rfl⟩ : ∃ f, f1 = f + 1 := ⟨f1 - 1, by omega⟩
    obtain ⟨f2, rfl⟩ : ∃ f, f2 = f + 1 := ⟨f2 - 1, by omega⟩
    have ex : gI x 10 3 = gI m 0 0 := H.1.1.2.2.1
    rw [lq3_u, lq3_u]
    generalize lq3 (s_X11_who_4 L) f1 = F1
    generalize lq3 s_X12_who_4 f2 = F2
    unfold s_X11_who_4 s_X12_who_4
    exact ⟨v, x, m, by simp (disch := omega) only [lt1, jn, bd_s, bd2_s, oc_s, oc_n, li0, li1, li2, li3, li4, li5, li6, li7, li8, li9, li10, li11, li12, li13, li14, li16, li20, li21, li22, li24, li30, li31, li33, li38, li39, li40, li41, li45, li48, li50, li51, li57, li58, li59, li60, li61, li62, li64, li70, li71, li72, li99, li100, li101, li104, li107, li109, li116, li120, li121, li124, li127, li128, li144, li255, li300, li360, li372, li396, li600, li999, li1000, li9960, li9990, li1000000, nI_1, nI_add, pk_sub, pk_mul, pk_div, rem_nI, i_lt, i_le, i_eq, okI, ix, isB, nI_clamp, nI_toInt, tneg, gI_sI, gR_sI, gJ_sI, gI_sR, gR_sR, gJ_sR, gI_sJ, gR_sJ, gJ_sJ, true_and, and_true, false_and, and_false, if_true, if_false, if_pos, if_neg, ex, en], by simp (disch := omega) only [lt1, jn, bd_s, bd2_s, oc_s, oc_n, li0, li1, li2, li3, li4, li5, li6, li7, li8, li9, li10, li11, li12, li13, li14, li16, li20, li21, li22, li24, li30, li31, li33, li38, li39, li40, li41, li45, li48, li50, li51, li57, li58, li59, li60, li61, li62, li64, li70, li71, li72, li99, li100, li101, li104, li107, li109, li116, li120, li121, li124, li127, li128, li144, li255, li300, li360, li372, li396, li600, li999, li1000, li9960, li9990, li1000000, nI_1, nI_add, pk_sub, pk_mul, pk_div, rem_nI, i_lt, i_le, i_eq, okI, ix, isB, nI_clamp, nI_toInt, tneg, gI_sI, gR_sI, gJ_sI, gI_sR, gR_sR, gJ_sR, gI_sJ, gR_sJ, gJ_sJ, true_and, and_true, false_and, and_false, if_true, if_false, if_pos, if_neg, en], H⟩
  | d + 1, k, f1, f2, v, x, m, H, en, h1, h2, h3 => by
    obtain ⟨f1, rfl⟩ : ∃ f, f1 = f + 1 := ⟨f1 - 1, by omega⟩
    obtain ⟨f2, rfl⟩ : ∃ f, f2 = f + 1 := ⟨f2 - 1, by omega⟩
    have ex : gI x 10 3 = gI m 0 0 := H.1.1.2.2.1
    have hk : k < n := by omega
    have ihs := fun v' x' m' H' en' => who_loop hn d (k + 1) f1 f2 v' x' m' H' en' (by omega) (by omega) (by omega)
    rw [lq3_u, lq3_u]
    generalize lq3 (s_X11_who_4 L) f1 = F1 at ihs ⊢
    generalize lq3 s_X12_who_4 f2 = F2 at ihs ⊢
    unfold s_X11_who_4 s_X12_who_4
    rw [x_find H hn en, if_pos (okN hk (by omega)), ixN (by omega)]
    have hW := ((H.2.1.w en hn).1 k hk).1
    rw [ex, en, if_neg (nI_ge hk (by omega)), if_neg (nI_ge hk (by omega))]
    simp only [jn, bd_s, oc_s, if_pos hW]
    obtain ⟨b, x', m', r1, r2, r3, r4⟩ := fits_loop hn hk (fun (x19 : Int32) (m20 : gMem) => if x19 = 0 then lt1 (v ||| 0) fun x23 => lt1 (nI k + 1) fun x24 => F2 x23 x24 m20 else lt1 (v ||| (1 : Int32) <<< (nI k &&& 31)) fun x23 => lt1 (nI k + 1) fun x24 => F2 x23 x24 m20) 6 0 1000 1000 x m H en rfl (by decide) (by decide)
    rw [show f_X2_fitsSeen L x (W k) = some (nI (if b = true then 1 else 0), x') from r1, bd2_s]
    have r2' : lq3 (s_X12_who_17 (fun (x19 : Int32) (m20 : gMem) => if x19 = 0 then lt1 (v ||| 0) fun x23 => lt1 (nI k + 1) fun x24 => F2 x23 x24 m20 else lt1 (v ||| (1 : Int32) <<< (nI k &&& 31)) fun x23 => lt1 (nI k + 1) fun x24 => F2 x23 x24 m20) (nI k)) 1000 1 0 m = _ := r2
    rw [r2']
    have ho : v ||| 0 = v := by
      apply Int32.toBitVec_inj.1
      show v.toBitVec ||| 0#32 = v.toBitVec
      simp
    cases b with
    | true =>
      simp only [if_true]
      rw [if_neg (by decide), if_neg (by decide)]
      simp only [lt1]
      rw [nI_1]
      exact ihs _ x' m' r3 r4
    | false =>
      simp only [Bool.false_eq_true, if_false]
      rw [if_pos (by decide), if_pos (by decide)]
      simp only [lt1]
      rw [nI_1, ho]
      exact ihs _ x' m' r3 r4
theorem op_who (H : Rel L W N x m) : Op L W N (f_X11_who L x) (f_X12_who m) := by
  obtain ⟨n, hn, en, hW⟩ := H.2.1
  exact who_loop hn n 0 1000 1000 0 x m H en (by omega) (by omega) (by omega)
/-- fractions -/
theorem m_gcd : ∀ (b a fuel : Nat), a < 2 ^ 31 → b < 2 ^ 31 → b < fuel → lq2 s_X12_divisor_5 fuel (nI a) (nI b) = some (nI (Nat.gcd a b)) := by
  intro b
  induction b using Nat.strongRecOn with
  | ind b ih =>
    intro a fuel ha hb hf
    obtain ⟨f, rfl⟩ : ∃ f, fuel = f + 1 := ⟨fuel - 1, by omega⟩
    by_cases h0 : b = 0
    · subst h0
      rw [lq2_u, Nat.gcd_zero_right]
      generalize lq2 s_X12_divisor_5 f = F
      unfold s_X12_divisor_5
      rw [if_pos (show nI 0 = 0 from rfl)]
    · have hm := Nat.mod_lt a (show 0 < b by omega)
      have := ih (a % b) hm b f (by omega) (by omega) (by omega)
      rw [lq2_u, Nat.gcd_comm, Nat.gcd_rec, Nat.gcd_comm, ← this]
      generalize lq2 s_X12_divisor_5 f = F
      unfold s_X12_divisor_5
      rw [if_neg (nI_ne0 (by omega) (by omega)), if_pos (nI_ne0 (by omega) (by omega)), rem_nI ha (by omega) hb]
      rfl
theorem x_gcd (j1 : Int32 → Option Int64) : ∀ (r d k fuel : Nat), d < 2 ^ 31 → r < 2 ^ 31 → r + k < 64 → r < fuel → lq3 (s_X11_fraction_8 j1) fuel (nI d) (nI r) (nI k) = j1 (nI (Nat.gcd d r)) := by
  intro r
  induction r using Nat.strongRecOn with
  | ind b ih =>
    intro a k fuel ha hb hk hf
    obtain ⟨f, rfl⟩ : ∃ f, fuel = f + 1 := ⟨fuel - 1, by omega⟩
    by_cases h0 : b = 0
    · subst h0
      rw [lq3_u, Nat.gcd_zero_right]
      generalize lq3 (s_X11_fraction_8 j1) f = F
      unfold s_X11_fraction_8
      simp (disch := omega) only [lt1, jn, bd_s, bd2_s, oc_s, oc_n, li0, li1, li2, li3, li4, li5, li6, li7, li8, li9, li10, li11, li12, li13, li14, li16, li20, li21, li22, li24, li30, li31, li33, li38, li39, li40, li41, li45, li48, li50, li51, li57, li58, li59, li60, li61, li62, li64, li70, li71, li72, li99, li100, li101, li104, li107, li109, li116, li120, li121, li124, li127, li128, li144, li255, li300, li360, li372, li396, li600, li999, li1000, li9960, li9990, li1000000, nI_1, nI_add, pk_sub, pk_mul, pk_div, rem_nI, i_lt, i_le, i_eq, okI, ix, isB, nI_clamp, nI_toInt, tneg, gI_sI, gR_sI, gJ_sI, gI_sR, gR_sR, gJ_sR, gI_sJ, gR_sJ, gJ_sJ, true_and, and_true, false_and, and_false, if_true, if_false, if_pos, if_neg]
    · have hm := Nat.mod_lt a (show 0 < b by omega)
      have := ih (a % b) hm b (k + 1) f (by omega) (by omega) (by omega) (by omega)
      rw [lq3_u, Nat.gcd_comm, Nat.gcd_rec, Nat.gcd_comm, ← this]
      generalize lq3 (s_X11_fraction_8 j1) f = F
      unfold s_X11_fraction_8
      rw [if_neg (show ¬ (64 : Int32) ≤ nI k from nI_ge (b := 64) (by omega) (by decide)), if_neg (nI_nle (by omega) (by omega)), if_pos (nI_ne0 (by omega) (by omega)), rem_nI ha (by omega) hb]
      simp only [lt1]
      rw [nI_1]
theorem frac {above below : Nat} (ha : above < 2 ^ 20) (hb : 0 < below) (hb2 : below ≤ 12) (p : Int32) : ∃ v, f_X11_fraction (nI above) (nI below) p = some v ∧ f_X12_lowest (nI above) (nI below) p = some v := by
  have hg : 0 < Nat.gcd above below := Nat.gcd_pos_of_pos_right _ hb
  have hg2 : Nat.gcd above below ≤ 12 := Nat.le_trans (Nat.gcd_le_right _ hb) hb2
  have e1 : f_X12_divisor (nI above) (nI below) = some (nI (Nat.gcd above below)) := m_gcd below above 1000 (by omega) (by omega) (by omega)
  have hne : ¬ nI (Nat.gcd above below) = nI 0 := nI_ne0 hg (by omega)
  have e2 : ∀ j1 : Int32 → Option Int64, lq3 (s_X11_fraction_8 j1) 1000 (nI below) (nI above) (nI 0) = j1 (nI (Nat.gcd above below)) := by
    intro j1
    by_cases h : above < 60
    · rw [x_gcd j1 above below 0 1000 (by omega) (by omega) (by omega) (by omega), Nat.gcd_comm]
    · have hm := Nat.mod_lt below (show 0 < above by omega)
      have hmle := Nat.mod_le below above
      rw [lq3_u]
      have := x_gcd j1 (below % above) above 1 999 (by omega) (by omega) (by omega) (by omega)
      rw [Nat.gcd_comm, ← Nat.gcd_rec, Nat.gcd_comm] at this
      have h2 : Nat.gcd above (below % above) = Nat.gcd above below := by rw [Nat.gcd_comm, ← Nat.gcd_rec]
      have := x_gcd j1 (below % above) above 1 999 (by omega) (by omega) (by omega) (by omega)
      rw [h2] at this
      rw [← this]
      generalize lq3 (s_X11_fraction_8 j1) 999 = F
      unfold s_X11_fraction_8
      rw [if_neg (show ¬ (64 : Int32) ≤ nI 0 by decide), if_neg (nI_nle (by omega) (by omega)), if_pos (nI_ne0 (by omega) (by omega)), rem_nI (by omega) (by omega) (by omega)]
      rfl
  unfold f_X11_fraction f_X12_lowest
  rw [e1, bd_s]
  simp only [jn]
  rw [li0, e2, if_pos (show (1 : Int32) ≤ nI (Nat.gcd above below) from nI_le (a := 1) hg (by omega))]
  by_cases hp : p = nI 0
  · exact ⟨_, by rw [if_pos hp, if_pos hne], by rw [if_pos hp, if_pos hne]⟩
  · exact ⟨_, by rw [if_neg hp, if_pos hne], by rw [if_neg hp, if_pos hne]⟩
theorem mean_loop {n b : Nat} (hn : n ≤ 4) (hb : b < 12) (j1 j2 : Int32 → gMem → Option (Int64 × gMem)) (hj : ∀ (s : Nat) (x m : gMem), Rel L W N x m → gI m 0 0 = nI n → s ≤ 5000 → Op L W N (j1 (nI s) x) (j2 (nI s) m)) : ∀ (d k f1 f2 s : Nat) (x m : gMem), Rel L W N x m → gI m 0 0 = nI n → d + k = n → d < f1 → d < f2 → s ≤ 1030 * k → Op L W N (lq3 (s_X11_mean_36 j1 L (nI b)) f1 (nI s) (nI k) x) (lq3 (s_X12_mean_34 j2 (nI b)) f2 (nI s) (nI k) m)
  | 0, k, f1, f2, s, x, m, H, en, h1, h2, h3, h4 => by
    obtain ⟨f1, rfl⟩ : ∃ f, f1 = f + 1 := ⟨f1 - 1, by omega⟩
    obtain ⟨f2, rfl⟩ : ∃ f, f2 = f + 1 := ⟨f2 - 1, by omega⟩
    have ex : gI x 10 3 = gI m 0 0 := H.1.1.2.2.1
    have := hj s x m H en (by omega)
    rw [lq3_u, lq3_u]
    generalize lq3 (s_X11_mean_36 j1 L (nI b)) f1 = F1
    generalize lq3 (s_X12_mean_34 j2 (nI b)) f2 = F2
    unfold s_X11_mean_36 s_X12_mean_34
    rw [ex, en, if_pos (nI_le (by omega) (by omega)), if_pos (nI_le (by omega) (by omega))]
    exact this
  | d + 1, k, f1, f2, s, x, m, H, en, h1, h2, h3, h4 => by
    obtain ⟨f1, rfl⟩ : ∃ f, f1 = f + 1 := ⟨f1 - 1, by omega⟩
    obtain ⟨f2, rfl⟩ : ∃ f, f2 = f + 1 := ⟨f2 - 1, by omega⟩
    have ex : gI x 10 3 = gI m 0 0 := H.1.1.2.2.1
    have hk : k < n := by omega
    obtain ⟨t, ht, et⟩ : rg (gI m 0 1) 9992 := H.1.2.2.2.1
    have ex4 : gI x 10 4 = gI m 0 1 := H.1.1.2.2.2.1
    obtain ⟨x1, e1, e2⟩ := H.xnoise hn en hk (b := b) (t := t) hb (by omega)
    obtain ⟨m1, g1, g2⟩ := H.mnoise hn en hk (b := b) (t := t) hb (by omega)
    have H1 := H.kp e2 g2
    have hl : nzO N W m k b t ≤ 1030 := (H.mn hn en hk).le hb _
    have ih := mean_loop hn hb j1 j2 hj d (k + 1) f1 f2 (s + nzO N W m k b t) x1 m1 H1 ((g2.1 _ _ (by omega)).trans en) (by omega) (by omega) (by omega) (by omega)
    rw [lq3_u, lq3_u]
    generalize lq3 (s_X11_mean_36 j1 L (nI b)) f1 = F1 at ih ⊢
    generalize lq3 (s_X12_mean_34 j2 (nI b)) f2 = F2 at ih ⊢
    unfold s_X11_mean_36 s_X12_mean_34
    have hW := ((H.2.1.w en hn).1 k hk).1
    rw [x_find H hn en, if_pos (okN hk (by omega)), ixN (by omega), ex, en, if_neg (nI_ge hk (by omega)), if_neg (nI_ge hk (by omega))]
    simp only [jn, lt1, bd_s, oc_s, if_pos hW, ex4, et, e1, g1, bd2_s]
    rw [nI_add, nI_1]
    exact ih
theorem op_mean (H : Rel L W N x m) (p0 p1 : Int32) : Op L W N (f_X11_mean L x p0 p1) (f_X12_mean m p0 p1) := by
  obtain ⟨n, hn, en, hW⟩ := H.2.1
  have ex : gI x 10 3 = gI m 0 0 := H.1.1.2.2.1
  unfold f_X11_mean f_X12_mean
  rw [x_isBoard, m_isBoard, m_in0 p1 1 2 rfl]
  rcases p_in p0 12 (by decide) with ⟨b, hb, rfl⟩ | h | h
  rotate_left
  · exact ⟨-9223372036854775808, x, m, by simp (disch := omega) only [lt1, jn, bd_s, bd2_s, oc_s, oc_n, li0, li1, li2, li3, li4, li5, li6, li7, li8, li9, li10, li11, li12, li13, li14, li16, li20, li21, li22, li24, li30, li31, li33, li38, li39, li40, li41, li45, li48, li50, li51, li57, li58, li59, li60, li61, li62, li64, li70, li71, li72, li99, li100, li101, li104, li107, li109, li116, li120, li121, li124, li127, li128, li144, li255, li300, li360, li372, li396, li600, li999, li1000, li9960, li9990, li1000000, nI_1, nI_add, pk_sub, pk_mul, pk_div, rem_nI, i_lt, i_le, i_eq, okI, ix, isB, nI_clamp, nI_toInt, tneg, gI_sI, gR_sI, gJ_sI, gI_sR, gR_sR, gJ_sR, gI_sJ, gR_sJ, gJ_sJ, true_and, and_true, false_and, and_false, if_true, if_false, if_pos, if_neg], by simp (disch := omega) only [lt1, jn, bd_s, bd2_s, oc_s, oc_n, li0, li1, li2, li3, li4, li5, li6, li7, li8, li9, li10, li11, li12, li13, li14, li16, li20, li21, li22, li24, li30, li31, li33, li38, li39, li40, li41, li45, li48, li50, li51, li57, li58, li59, li60, li61, li62, li64, li70, li71, li72, li99, li100, li101, li104, li107, li109, li116, li120, li121, li124, li127, li128, li144, li255, li300, li360, li372, li396, li600, li999, li1000, li9960, li9990, li1000000, nI_1, nI_add, pk_sub, pk_mul, pk_div, rem_nI, i_lt, i_le, i_eq, okI, ix, isB, nI_clamp, nI_toInt, tneg, gI_sI, gR_sI, gJ_sI, gI_sR, gR_sR, gJ_sR, gI_sJ, gR_sJ, gJ_sJ, true_and, and_true, false_and, and_false, if_true, if_false, if_pos, if_neg], H⟩
  · exact ⟨-9223372036854775808, x, m, by simp (disch := omega) only [lt1, jn, bd_s, bd2_s, oc_s, oc_n, li0, li1, li2, li3, li4, li5, li6, li7, li8, li9, li10, li11, li12, li13, li14, li16, li20, li21, li22, li24, li30, li31, li33, li38, li39, li40, li41, li45, li48, li50, li51, li57, li58, li59, li60, li61, li62, li64, li70, li71, li72, li99, li100, li101, li104, li107, li109, li116, li120, li121, li124, li127, li128, li144, li255, li300, li360, li372, li396, li600, li999, li1000, li9960, li9990, li1000000, nI_1, nI_add, pk_sub, pk_mul, pk_div, rem_nI, i_lt, i_le, i_eq, okI, ix, isB, nI_clamp, nI_toInt, tneg, gI_sI, gR_sI, gJ_sI, gI_sR, gR_sR, gJ_sR, gI_sJ, gR_sJ, gJ_sJ, true_and, and_true, false_and, and_false, if_true, if_false, if_pos, if_neg], by simp (disch := omega) only [lt1, jn, bd_s, bd2_s, oc_s, oc_n, li0, li1, li2, li3, li4, li5, li6, li7, li8, li9, li10, li11, li12, li13, li14, li16, li20, li21, li22, li24, li30, li31, li33, li38, li39, li40, li41, li45, li48, li50, li51, li57, li58, li59, li60, li61, li62, li64, li70, li71, li72, li99, li100, li101, li104, li107, li109, li116, li120, li121, li124, li127, li128, li144, li255, li300, li360, li372, li396, li600, li999, li1000, li9960, li9990, li1000000, nI_1, nI_add, pk_sub, pk_mul, pk_div, rem_nI, i_lt, i_le, i_eq, okI, ix, isB, nI_clamp, nI_toInt, tneg, gI_sI, gR_sI, gJ_sI, gI_sR, gR_sR, gJ_sR, gI_sJ, gR_sJ, gJ_sJ, true_and, and_true, false_and, and_false, if_true, if_false, if_pos, if_neg], H⟩
  rcases p_in p1 2 (by decide) with ⟨p, hp, rfl⟩ | h | h
  rotate_left
  · exact ⟨-9223372036854775808, x, m, by simp (disch := omega) only [lt1, jn, bd_s, bd2_s, oc_s, oc_n, li0, li1, li2, li3, li4, li5, li6, li7, li8, li9, li10, li11, li12, li13, li14, li16, li20, li21, li22, li24, li30, li31, li33, li38, li39, li40, li41, li45, li48, li50, li51, li57, li58, li59, li60, li61, li62, li64, li70, li71, li72, li99, li100, li101, li104, li107, li109, li116, li120, li121, li124, li127, li128, li144, li255, li300, li360, li372, li396, li600, li999, li1000, li9960, li9990, li1000000, nI_1, nI_add, pk_sub, pk_mul, pk_div, rem_nI, i_lt, i_le, i_eq, okI, ix, isB, nI_clamp, nI_toInt, tneg, gI_sI, gR_sI, gJ_sI, gI_sR, gR_sR, gJ_sR, gI_sJ, gR_sJ, gJ_sJ, true_and, and_true, false_and, and_false, if_true, if_false, if_pos, if_neg], by simp (disch := omega) only [lt1, jn, bd_s, bd2_s, oc_s, oc_n, li0, li1, li2, li3, li4, li5, li6, li7, li8, li9, li10, li11, li12, li13, li14, li16, li20, li21, li22, li24, li30, li31, li33, li38, li39, li40, li41, li45, li48, li50, li51, li57, li58, li59, li60, li61, li62, li64, li70, li71, li72, li99, li100, li101, li104, li107, li109, li116, li120, li121, li124, li127, li128, li144, li255, li300, li360, li372, li396, li600, li999, li1000, li9960, li9990, li1000000, nI_1, nI_add, pk_sub, pk_mul, pk_div, rem_nI, i_lt, i_le, i_eq, okI, ix, isB, nI_clamp, nI_toInt, tneg, gI_sI, gR_sI, gJ_sI, gI_sR, gR_sR, gJ_sR, gI_sJ, gR_sJ, gJ_sJ, true_and, and_true, false_and, and_false, if_true, if_false, if_pos, if_neg], H⟩
  · exact ⟨-9223372036854775808, x, m, by simp (disch := omega) only [lt1, jn, bd_s, bd2_s, oc_s, oc_n, li0, li1, li2, li3, li4, li5, li6, li7, li8, li9, li10, li11, li12, li13, li14, li16, li20, li21, li22, li24, li30, li31, li33, li38, li39, li40, li41, li45, li48, li50, li51, li57, li58, li59, li60, li61, li62, li64, li70, li71, li72, li99, li100, li101, li104, li107, li109, li116, li120, li121, li124, li127, li128, li144, li255, li300, li360, li372, li396, li600, li999, li1000, li9960, li9990, li1000000, nI_1, nI_add, pk_sub, pk_mul, pk_div, rem_nI, i_lt, i_le, i_eq, okI, ix, isB, nI_clamp, nI_toInt, tneg, gI_sI, gR_sI, gJ_sI, gI_sR, gR_sR, gJ_sR, gI_sJ, gR_sJ, gJ_sJ, true_and, and_true, false_and, and_false, if_true, if_false, if_pos, if_neg], by simp (disch := omega) only [lt1, jn, bd_s, bd2_s, oc_s, oc_n, li0, li1, li2, li3, li4, li5, li6, li7, li8, li9, li10, li11, li12, li13, li14, li16, li20, li21, li22, li24, li30, li31, li33, li38, li39, li40, li41, li45, li48, li50, li51, li57, li58, li59, li60, li61, li62, li64, li70, li71, li72, li99, li100, li101, li104, li107, li109, li116, li120, li121, li124, li127, li128, li144, li255, li300, li360, li372, li396, li600, li999, li1000, li9960, li9990, li1000000, nI_1, nI_add, pk_sub, pk_mul, pk_div, rem_nI, i_lt, i_le, i_eq, okI, ix, isB, nI_clamp, nI_toInt, tneg, gI_sI, gR_sI, gJ_sI, gI_sR, gR_sR, gJ_sR, gI_sJ, gR_sJ, gJ_sJ, true_and, and_true, false_and, and_false, if_true, if_false, if_pos, if_neg], H⟩
  by_cases h0 : n = 0
  · subst h0
    exact ⟨-9223372036854775808, x, m, by simp (disch := omega) only [lt1, jn, bd_s, bd2_s, oc_s, oc_n, li0, li1, li2, li3, li4, li5, li6, li7, li8, li9, li10, li11, li12, li13, li14, li16, li20, li21, li22, li24, li30, li31, li33, li38, li39, li40, li41, li45, li48, li50, li51, li57, li58, li59, li60, li61, li62, li64, li70, li71, li72, li99, li100, li101, li104, li107, li109, li116, li120, li121, li124, li127, li128, li144, li255, li300, li360, li372, li396, li600, li999, li1000, li9960, li9990, li1000000, nI_1, nI_add, pk_sub, pk_mul, pk_div, rem_nI, i_lt, i_le, i_eq, okI, ix, isB, nI_clamp, nI_toInt, tneg, gI_sI, gR_sI, gJ_sI, gI_sR, gR_sR, gJ_sR, gI_sJ, gR_sJ, gJ_sJ, true_and, and_true, false_and, and_false, if_true, if_false, if_pos, if_neg, ex, en], by simp (disch := omega) only [lt1, jn, bd_s, bd2_s, oc_s, oc_n, li0, li1, li2, li3, li4, li5, li6, li7, li8, li9, li10, li11, li12, li13, li14, li16, li20, li21, li22, li24, li30, li31, li33, li38, li39, li40, li41, li45, li48, li50, li51, li57, li58, li59, li60, li61, li62, li64, li70, li71, li72, li99, li100, li101, li104, li107, li109, li116, li120, li121, li124, li127, li128, li144, li255, li300, li360, li372, li396, li600, li999, li1000, li9960, li9990, li1000000, nI_1, nI_add, pk_sub, pk_mul, pk_div, rem_nI, i_lt, i_le, i_eq, okI, ix, isB, nI_clamp, nI_toInt, tneg, gI_sI, gR_sI, gJ_sI, gI_sR, gR_sR, gJ_sR, gI_sJ, gR_sJ, gJ_sJ, true_and, and_true, false_and, and_false, if_true, if_false, if_pos, if_neg, en], H⟩
  have main := mean_loop (L := L) (W := W) (N := N) hn hb (fun (x16 : Int32) (m17 : gMem) => bd (f_X11_fraction x16 (gI m17 10 3) (nI p)) fun (y18 : Int64) => some (y18, m17)) (fun (x12 : Int32) (m13 : gMem) => bd (f_X12_lowest x12 (gI m13 0 0) (nI p)) fun (y14 : Int64) => some (y14, m13)) (fun s x m H en hs => by
    have ex : gI x 10 3 = gI m 0 0 := H.1.1.2.2.1
    obtain ⟨v, v1, v2⟩ := frac (above := s) (below := n) (by omega) (by omega) (by omega) (nI p)
    exact ⟨v, x, m, by simp only [ex, en, v1, bd_s], by simp only [en, v2, bd_s], H⟩) n 0 1000 1000 0 x m H en (by omega) (by omega) (by omega) (by omega)
  obtain ⟨a, x', m', r1, r2, r3⟩ := main
  refine ⟨a, x', m', ?_, ?_, r3⟩
  · rw [← r1]
    generalize hF : (fun (x16 : Int32) (m17 : gMem) => bd (f_X11_fraction x16 (gI m17 10 3) (nI p)) fun (y18 : Int64) => some (y18, m17)) = F
    simp (disch := omega) only [lt1, jn, bd_s, bd2_s, oc_s, oc_n, li0, li1, li2, li3, li4, li5, li6, li7, li8, li9, li10, li11, li12, li13, li14, li16, li20, li21, li22, li24, li30, li31, li33, li38, li39, li40, li41, li45, li48, li50, li51, li57, li58, li59, li60, li61, li62, li64, li70, li71, li72, li99, li100, li101, li104, li107, li109, li116, li120, li121, li124, li127, li128, li144, li255, li300, li360, li372, li396, li600, li999, li1000, li9960, li9990, li1000000, nI_1, nI_add, pk_sub, pk_mul, pk_div, rem_nI, i_lt, i_le, i_eq, okI, ix, isB, nI_clamp, nI_toInt, tneg, gI_sI, gR_sI, gJ_sI, gI_sR, gR_sR, gJ_sR, gI_sJ, gR_sJ, gJ_sJ, true_and, and_true, false_and, and_false, if_true, if_false, if_pos, if_neg, ex, en]
  · rw [← r2]
    generalize hF : (fun (x12 : Int32) (m13 : gMem) => bd (f_X12_lowest x12 (gI m13 0 0) (nI p)) fun (y14 : Int64) => some (y14, m13)) = F
    simp (disch := omega) only [lt1, jn, bd_s, bd2_s, oc_s, oc_n, li0, li1, li2, li3, li4, li5, li6, li7, li8, li9, li10, li11, li12, li13, li14, li16, li20, li21, li22, li24, li30, li31, li33, li38, li39, li40, li41, li45, li48, li50, li51, li57, li58, li59, li60, li61, li62, li64, li70, li71, li72, li99, li100, li101, li104, li107, li109, li116, li120, li121, li124, li127, li128, li144, li255, li300, li360, li372, li396, li600, li999, li1000, li9960, li9990, li1000000, nI_1, nI_add, pk_sub, pk_mul, pk_div, rem_nI, i_lt, i_le, i_eq, okI, ix, isB, nI_clamp, nI_toInt, tneg, gI_sI, gR_sI, gJ_sI, gI_sR, gR_sR, gJ_sR, gI_sJ, gR_sJ, gJ_sJ, true_and, and_true, false_and, and_false, if_true, if_false, if_pos, if_neg, en]
end P2
