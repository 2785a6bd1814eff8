/-! what is learnt of one's NOISE and of DEPTH -/
def LT (x : gMem) (nz : Nat → Nat → Nat) (dp : Nat → Nat) (tm dr : Nat) : Prop := gI x 32 2 = nI tm ∧ gI x 32 3 = nI dr ∧ (∀ t, t < 12 → gI x 34 t = nI (dp t)) ∧ ∀ t b, t < 12 → b < 12 → gI x 33 (t * 12 + b) = nI (nz b t)
section L1
variable {L : List Nat} {W : Nat → Nat} {N : Nat → List cls} {x m x' m' : gMem}
theorem LT.fr {nz : Nat → Nat → Nat} {dp : Nat → Nat} {tm dr : Nat} (h : LT x nz dp tm dr) (hx : ∀ o k, (o = 32 ∧ (k = 2 ∨ k = 3)) ∨ o = 33 ∨ o = 34 → gI x' o k = gI x o k) : LT x' nz dp tm dr := by
  unfold LT at *
  simp (disch := omega) only [hx]
  exact h
/-- NOISE on a BOARD, had it that CREAK and TOY -/
def lbV (N : Nat → List cls) (W : Nat → Nat) (m : gMem) (i b cr ty t : Nat) : Nat := nzN (wkd (W i)) (vO m i) (rowO m i) (ldN (curP N m) cr ty b (wkd (W i)) t) t
theorem lb_loop {n i b cr ty : Nat} (hn : n ≤ 4) (en : gI m 0 0 = nI n) (hi : i < n) (hb : b < 12) (hcr : cr ≤ 9) (hty : ty < 2) : ∀ (d k fuel : Nat) (x : gMem), Rel L W N x m → d + k = 12 → d < fuel → ∃ x', lq2 (s_X10_learnBoard_11 L (W i) (nI b) (nI cr) (nI ty)) fuel (nI k) x = some x' ∧ (∀ o c, o ≠ 17 → ¬ (o = 33 ∧ c % 12 = b) → gI x' o c = gI x o c) ∧ (∀ o c, gJ x' o c = gJ x o c) ∧ (∀ o c, gR x' o c = gR x o c) ∧ (∀ t, t < k → gI x' 33 (t * 12 + b) = gI x 33 (t * 12 + b)) ∧ ∀ t, k ≤ t → t < 12 → gI x' 33 (t * 12 + b) = nI (lbV N W m i b cr ty t)
  | 0, k, fuel, x, H, h1, h2 => by
    obtain ⟨f, rfl⟩ : ∃ f, fuel = f + 1 := ⟨fuel - 1, by omega⟩
    refine ⟨x, ?_, fun _ _ _ _ => rfl, fun _ _ => rfl, fun _ _ => rfl, fun _ _ => rfl, fun t p q => by omega⟩
    rw [lq2_u]
    generalize lq2 (s_X10_learnBoard_11 L (W i) (nI b) (nI cr) (nI ty)) f = F
    unfold s_X10_learnBoard_11
    simp (disch := omega) only [lt1, jn, bd_s, bd2_s, oc_s, oc_n, li0, li1, li2, li3, li4, li5, li6, li7, li8, li9, li10, li11, li12, li13, li14, li16, li20, li21, li22, li24, li30, li31, li33, li38, li39, li40, li41, li45, li48, li50, li51, li57, li58, li59, li60, li61, li62, li64, li70, li71, li72, li99, li100, li101, li104, li107, li109, li116, li120, li121, li124, li127, li128, li144, li255, li300, li360, li372, li396, li600, li999, li1000, li9960, li9990, li1000000, nI_1, nI_add, pk_sub, pk_mul, pk_div, rem_nI, i_lt, i_le, i_eq, okI, ix, isB, nI_clamp, nI_toInt, tneg, gI_sI, gR_sI, gJ_sI, gI_sR, gR_sR, gJ_sR, gI_sJ, gR_sJ, gJ_sJ, true_and, and_true, false_and, and_false, if_true, if_false, if_pos, if_neg]
  | d + 1, k, fuel, x, H, h1, h2 => by
    obtain ⟨f, rfl⟩ : ∃ f, fuel = f + 1 := ⟨fuel - 1, by omega⟩
    obtain ⟨q1, q2, q3, q4, q5, q6, q7, q8, q9⟩ := (H.2.1.w en hn).1 i hi
    have z3 := q1.1
    obtain ⟨hN, hC, h3, h4, h5, h6, h7, h8, h9, h10, h11, h12⟩ := H.mn hn en hi
    obtain ⟨x1, e1, e2⟩ := x_loud (L := L) hN hC (t := k) (b := b) (cr := cr) (kd := wkd (W i)) (ty := ty) (by omega) hb hcr h4 hty
    have hl := ld_le hN hC (b := b) (kd := wkd (W i)) (t := k) hcr hty
    have en1 := x_noise1 (L := L) (x := x1) (w := W i) (row := rowO m i) rfl h4 h5 ((e2.1 _ _ (by omega)).trans (q5.trans h8)) (fun h6 j hj => (e2.1 _ _ (by omega)).trans (((q9 j hj).2 h6).trans (h9 j hj))) (l := ldN (curP N m) cr ty b (wkd (W i)) k) (t := k) (by omega) (by omega)
    have H1 : Rel L W N (gsI x1 33 (k * 12 + b) (nI (lbV N W m i b cr ty k))) m := H.fr (e2.ag.trans ⟨fun o c q => gI_n (by omega), fun _ _ _ => rfl, fun _ _ => rfl⟩) agM.rfl
    obtain ⟨x', r1, r2, r3, r4, r5, r6⟩ := lb_loop hn en hi hb hcr hty d (k + 1) f _ H1 (by omega) (by omega)
    refine ⟨x', ?_, fun o c p q => ?_, fun o c => (r3 o c).trans (e2.2.1 o c), fun o c => (r4 o c).trans (e2.2.2 o c), fun t ht => ?_, fun t p q => ?_⟩
    · rw [← r1, lq2_u]
      generalize lq2 (s_X10_learnBoard_11 L (W i) (nI b) (nI cr) (nI ty)) f = F
      unfold s_X10_learnBoard_11
      rw [if_neg (show ¬ (12 : Int32) ≤ nI k from nI_ge (b := 12) (by omega) (by decide)), x_kind h4, bd_s, e1, bd2_s, en1, bd_s]
      simp (disch := omega) only [lt1, jn, bd_s, bd2_s, oc_s, oc_n, li0, li1, li2, li3, li4, li5, li6, li7, li8, li9, li10, li11, li12, li13, li14, li16, li20, li21, li22, li24, li30, li31, li33, li38, li39, li40, li41, li45, li48, li50, li51, li57, li58, li59, li60, li61, li62, li64, li70, li71, li72, li99, li100, li101, li104, li107, li109, li116, li120, li121, li124, li127, li128, li144, li255, li300, li360, li372, li396, li600, li999, li1000, li9960, li9990, li1000000, nI_1, nI_add, pk_sub, pk_mul, pk_div, rem_nI, i_lt, i_le, i_eq, okI, ix, isB, nI_clamp, nI_toInt, tneg, gI_sI, gR_sI, gJ_sI, gI_sR, gR_sR, gJ_sR, gI_sJ, gR_sJ, gJ_sJ, true_and, and_true, false_and, and_false, if_true, if_false, if_pos, if_neg]
      rfl
    · rw [r2 o c p q, gI_n (by omega), e2.1 o c p]
    · rw [r5 t (by omega), gI_n (by omega), e2.1 _ _ (by omega)]
    · by_cases ht : t = k
      · subst ht
        rw [r5 t (by omega), gI_y ⟨rfl, rfl⟩]
      · exact r6 t (by omega) q
theorem x_learnBoard (H : Rel L W N x m) {n i b cr ty : Nat} (hn : n ≤ 4) (en : gI m 0 0 = nI n) (hi : i < n) (hb : b < 12) (hcr : cr ≤ 9) (hty : ty < 2) : ∃ x', f_X10_learnBoard L x (W i) (nI b) (nI cr) (nI ty) = some x' ∧ (∀ o c, o ≠ 17 → ¬ (o = 33 ∧ c % 12 = b) → gI x' o c = gI x o c) ∧ (∀ o c, gJ x' o c = gJ x o c) ∧ (∀ o c, gR x' o c = gR x o c) ∧ ∀ t, t < 12 → gI x' 33 (t * 12 + b) = nI (lbV N W m i b cr ty t) := by
  obtain ⟨x', r1, r2, r3, r4, r5, r6⟩ := lb_loop (L := L) hn en hi hb hcr hty 12 0 1000 x H rfl (by decide)
  refine ⟨x', ?_, r2, r3, r4, fun t ht => r6 t (by omega) ht⟩
  unfold f_X10_learnBoard
  rw [x_isBoard, if_pos (okN hb (by decide)), bd_s, if_neg (by decide), li0, r1]
theorem ld_loop (J : gMem → Option gMem) : ∀ (d k fuel : Nat) (x : gMem), Rel L W N x m → d + k = 12 → d < fuel → ∃ x', lq2 (s_X10_learn_18 J L) fuel (nI k) x = J x' ∧ (∀ o c, o ≠ 17 → o ≠ 34 → gI x' o c = gI x o c) ∧ (∀ o c, gJ x' o c = gJ x o c) ∧ (∀ o c, gR x' o c = gR x o c) ∧ (∀ t, t < k → gI x' 34 t = gI x 34 t) ∧ ∀ t, k ≤ t → t < 12 → gI x' 34 t = nI (depN (curP N m) t)
  | 0, k, fuel, x, H, h1, h2 => by
    obtain ⟨f, rfl⟩ : ∃ f, fuel = f + 1 := ⟨fuel - 1, by omega⟩
    refine ⟨x, ?_, fun _ _ _ _ => rfl, fun _ _ => rfl, fun _ _ => rfl, fun _ _ => rfl, fun t p q => by omega⟩
    rw [lq2_u]
    generalize lq2 (s_X10_learn_18 J L) f = F
    unfold s_X10_learn_18
    simp (disch := omega) only [lt1, jn, bd_s, bd2_s, oc_s, oc_n, li0, li1, li2, li3, li4, li5, li6, li7, li8, li9, li10, li11, li12, li13, li14, li16, li20, li21, li22, li24, li30, li31, li33, li38, li39, li40, li41, li45, li48, li50, li51, li57, li58, li59, li60, li61, li62, li64, li70, li71, li72, li99, li100, li101, li104, li107, li109, li116, li120, li121, li124, li127, li128, li144, li255, li300, li360, li372, li396, li600, li999, li1000, li9960, li9990, li1000000, nI_1, nI_add, pk_sub, pk_mul, pk_div, rem_nI, i_lt, i_le, i_eq, okI, ix, isB, nI_clamp, nI_toInt, tneg, gI_sI, gR_sI, gJ_sI, gI_sR, gR_sR, gJ_sR, gI_sJ, gR_sJ, gJ_sJ, true_and, and_true, false_and, and_false, if_true, if_false, if_pos, if_neg]
  | d + 1, k, fuel, x, H, h1, h2 => by
    obtain ⟨f, rfl⟩ : ∃ f, fuel = f + 1 := ⟨fuel - 1, by omega⟩
    obtain ⟨x1, e1, e2⟩ := H.xdepth (t := k) (by omega)
    have H1 : Rel L W N (gsI x1 34 k (nI (depN (curP N m) k))) m := H.fr (e2.ag.trans ⟨fun o c q => gI_n (by omega), fun _ _ _ => rfl, fun _ _ => rfl⟩) agM.rfl
    obtain ⟨x', r1, r2, r3, r4, r5, r6⟩ := ld_loop J d (k + 1) f _ H1 (by omega) (by omega)
    refine ⟨x', ?_, fun o c p q => ?_, fun o c => (r3 o c).trans (e2.2.1 o c), fun o c => (r4 o c).trans (e2.2.2 o c), fun t ht => ?_, fun t p q => ?_⟩
    · rw [← r1, lq2_u]
      generalize lq2 (s_X10_learn_18 J L) f = F
      unfold s_X10_learn_18
      simp (disch := omega) only [lt1, jn, bd_s, bd2_s, oc_s, oc_n, li0, li1, li2, li3, li4, li5, li6, li7, li8, li9, li10, li11, li12, li13, li14, li16, li20, li21, li22, li24, li30, li31, li33, li38, li39, li40, li41, li45, li48, li50, li51, li57, li58, li59, li60, li61, li62, li64, li70, li71, li72, li99, li100, li101, li104, li107, li109, li116, li120, li121, li124, li127, li128, li144, li255, li300, li360, li372, li396, li600, li999, li1000, li9960, li9990, li1000000, nI_1, nI_add, pk_sub, pk_mul, pk_div, rem_nI, i_lt, i_le, i_eq, okI, ix, isB, nI_clamp, nI_toInt, tneg, gI_sI, gR_sI, gJ_sI, gI_sR, gR_sR, gJ_sR, gI_sJ, gR_sJ, gJ_sJ, true_and, and_true, false_and, and_false, if_true, if_false, if_pos, if_neg, e1]
    · rw [r2 o c p q, gI_n (by omega), e2.1 o c p]
    · rw [r5 t (by omega), gI_n (by omega), e2.1 _ _ (by omega)]
    · by_cases ht : t = k
      · subst ht
        rw [r5 t (by omega), gI_y ⟨rfl, rfl⟩]
      · exact r6 t (by omega) q
theorem lw_loop {n i : Nat} (hn : n ≤ 4) (en : gI m 0 0 = nI n) (hi : i < n) : ∀ (d k fuel : Nat) (x : gMem), Rel L W N x m → d + k = 12 → d < fuel → ∃ x', lq2 (s_X10_learn_43 L (W i)) fuel (nI k) x = some x' ∧ (∀ o c, o ≠ 17 → o ≠ 33 → gI x' o c = gI x o c) ∧ (∀ o c, gJ x' o c = gJ x o c) ∧ (∀ o c, gR x' o c = gR x o c) ∧ (∀ c, c % 12 < k → gI x' 33 c = gI x 33 c) ∧ ∀ t b, t < 12 → k ≤ b → b < 12 → gI x' 33 (t * 12 + b) = nI (nzO N W m i b t)
  | 0, k, fuel, x, H, h1, h2 => by
    obtain ⟨f, rfl⟩ : ∃ f, fuel = f + 1 := ⟨fuel - 1, by omega⟩
    refine ⟨x, ?_, fun _ _ _ _ => rfl, fun _ _ => rfl, fun _ _ => rfl, fun _ _ => rfl, fun t b p q r => by omega⟩
    rw [lq2_u]
    generalize lq2 (s_X10_learn_43 L (W i)) f = F
    unfold s_X10_learn_43
    simp (disch := omega) only [lt1, jn, bd_s, bd2_s, oc_s, oc_n, li0, li1, li2, li3, li4, li5, li6, li7, li8, li9, li10, li11, li12, li13, li14, li16, li20, li21, li22, li24, li30, li31, li33, li38, li39, li40, li41, li45, li48, li50, li51, li57, li58, li59, li60, li61, li62, li64, li70, li71, li72, li99, li100, li101, li104, li107, li109, li116, li120, li121, li124, li127, li128, li144, li255, li300, li360, li372, li396, li600, li999, li1000, li9960, li9990, li1000000, nI_1, nI_add, pk_sub, pk_mul, pk_div, rem_nI, i_lt, i_le, i_eq, okI, ix, isB, nI_clamp, nI_toInt, tneg, gI_sI, gR_sI, gJ_sI, gI_sR, gR_sR, gJ_sR, gI_sJ, gR_sJ, gJ_sJ, true_and, and_true, false_and, and_false, if_true, if_false, if_pos, if_neg]
  | d + 1, k, fuel, x, H, h1, h2 => by
    obtain ⟨f, rfl⟩ : ∃ f, fuel = f + 1 := ⟨fuel - 1, by omega⟩
    have M := H.mn hn en hi
    obtain ⟨hN, hC, h3, h4, h5, h6, h7, h8, h9, h10, h11, h12⟩ := M
    have ex1 : gI x 11 k = gI m 1 k := H.1.2.1.1 k (by omega)
    have ex2 : gI x 10 1 = gI m 0 3 := H.1.1.1
    have hs := shr (T := tyO m) (b := k) (by omega) (by omega)
    obtain ⟨x1, e1, e2, e3, e4, e5⟩ := x_learnBoard H hn en hi (b := k) (cr := crO m k) (ty := tyb (tyO m) k) (by omega) (h10 k (by omega)).1 (tyb_lt _ _)
    have H1 : Rel L W N x1 m := H.fr ⟨fun o c q => e2 o c (by omega) (by omega), fun o c _ => e3 o c, e4⟩ agM.rfl
    obtain ⟨x', r1, r2, r3, r4, r5, r6⟩ := lw_loop hn en hi d (k + 1) f x1 H1 (by omega) (by omega)
    refine ⟨x', ?_, fun o c p q => ?_, fun o c => (r3 o c).trans (e3 o c), fun o c => (r4 o c).trans (e4 o c), fun c hc => ?_, fun t b p q r => ?_⟩
    · rw [← r1, lq2_u]
      generalize lq2 (s_X10_learn_43 L (W i)) f = F
      unfold s_X10_learn_43 f_X2_toyOn
      rw [if_neg (show ¬ (12 : Int32) ≤ nI k from nI_ge (b := 12) (by omega) (by decide)), if_pos (okN (show k < 12 by omega) (by decide)), bd_s, ixN (by omega), ex1, (h10 k (by omega)).2, ex2, h12, hs, e1, bd_s]
      simp only [lt1]
      rw [nI_1]
    · rw [r2 o c p q, e2 o c p (by omega)]
    · rw [r5 c (by omega), e2 _ _ (by omega) (by omega)]
    · by_cases hb : b = k
      · subst hb
        rw [r5 _ (by omega), e5 t p]; rfl
      · exact r6 t b p (by omega) r
theorem x_learn (H : Rel L W N x m) {n i d : Nat} (hn : n ≤ 4) (en : gI m 0 0 = nI n) (hi : i < n) (ed : gI m 0 4 = nI d) : ∃ x', f_X10_learn L x (W i) = some x' ∧ Rel L W N x' m ∧ LT x' (nzO N W m i) (depN (curP N m)) (tmN (wkd (W i))) d ∧ (∀ o c, o ≠ 17 → (o < 32 ∨ 36 ≤ o) → gI x' o c = gI x o c) := by
  obtain ⟨q1, q2, q3, q4, q5, q6, q7, q8, q9⟩ := (H.2.1.w en hn).1 i hi
  have ex2 : gI x 10 2 = gI m 0 4 := H.1.1.2.1
  have H1 : Rel L W N (gsI (gsI x 32 2 (nI (tmN (wkd (W i))))) 32 3 (nI d)) m := H.fr ⟨fun o c q => by rw [gI_n (by omega), gI_n (by omega)], fun _ _ _ => rfl, fun _ _ => rfl⟩ agM.rfl
  obtain ⟨x1, e1, e2, e3, e4, -, e6⟩ := ld_loop (L := L) (W := W) (N := N) (m := m) (fun (m12 : gMem) => lq2 (s_X10_learn_43 L (W i)) 1000 (nI 0) m12) 12 0 1000 _ H1 rfl (by decide)
  have H2 : Rel L W N x1 m := H1.fr ⟨fun o c q => e2 o c (by omega) (by omega), fun o c _ => e3 o c, e4⟩ agM.rfl
  obtain ⟨x2, f1, f2, f3, f4, -, f6⟩ := lw_loop (L := L) (W := W) (N := N) (m := m) hn en hi 12 0 1000 x1 H2 rfl (by decide)
  have H3 : Rel L W N x2 m := H2.fr ⟨fun o c q => f2 o c (by omega) (by omega), fun o c _ => f3 o c, f4⟩ agM.rfl
  refine ⟨x2, ?_, H3, ⟨?_, ?_, fun t ht => ?_, fun t b ht hb => f6 t b ht (by omega) hb⟩, fun o c p q => ?_⟩
  · unfold f_X10_learn
    rw [x_time q1.2.2.1, bd_s, lt1_s, gI_n (by omega), ex2, ed, lt1_s, jn_s, li0, e1]
    exact f1
  · rw [f2 _ _ (by omega) (by omega), e2 _ _ (by omega) (by omega), gI_n (by omega), gI_y ⟨rfl, rfl⟩]
  · rw [f2 _ _ (by omega) (by omega), e2 _ _ (by omega) (by omega), gI_y ⟨rfl, rfl⟩]
  · rw [f2 _ _ (by omega) (by omega), e6 t (by omega) ht]
  · rw [f2 _ _ p (by omega), e2 _ _ p (by omega), gI_n (by omega), gI_n (by omega)]
end L1
