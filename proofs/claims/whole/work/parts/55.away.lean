/-! away -/
def agT (m m' : gMem) : Prop := (∀ o k, ¬ (o = 13 ∨ o = 15 ∨ (17 ≤ o ∧ o ≤ 20) ∨ o = 39 ∨ (o = 0 ∧ ((32 ≤ k ∧ k ≤ 34) ∨ k = 39 ∨ k = 40 ∨ k = 3))) → gI m' o k = gI m o k) ∧ (∀ o k, o ≠ 39 → gJ m' o k = gJ m o k) ∧ ∀ o k, gR m' o k = gR m o k
theorem agM.toT {m m' : gMem} (h : agM m m') : agT m m' := ⟨fun o k q => h.1 o k (by omega), h.2.1, h.2.2⟩
section V3
variable {L : List Nat} {W : Nat → Nat} {N : Nat → List cls} {x m x' m' m0 : gMem}
theorem tyb_big {T o : Nat} (hT : T ≤ 4095) (ho : 12 ≤ o) : tyb T o = 0 := by
  unfold tyb
  have : 2 ^ 12 ≤ 2 ^ o := Nat.pow_le_pow_right (by decide) ho
  rw [Nat.div_eq_of_lt (by omega)]
theorem m_away_step (H : Rel L W N x m0) (A : agT m0 m) {n i dr b0 t s k : Nat} (hn : n ≤ 4) (en : gI m0 0 0 = nI n) (hi : i < n) (eb : gI m0 4 i = nI b0) (hb0 : b0 < 12) (et : gI m0 0 1 = nI t) (ht : t ≤ 9992) (es : gI m0 0 2 = nI s) (hs : s ≤ 2) (ed : gI m0 0 4 = nI dr) (hdr : dr < 12) (hk : k < 12) {a : Int32} {q : Option Nat} (hq : ∀ a, q = some a → a ≤ 40) (j5 : Int32 → gMem → Option (Int32 × gMem)) (h1 : tyb (tyO m0) k = 1) : ∃ m3, agT m0 m3 ∧ ∀ F2 : Int32 → Int32 → Int32 → gMem → Option (Int32 × gMem), s_X12_away_28 j5 (nI (tyO m0)) (nI i) F2 (ansN q) a (nI k) m = if fewr (outB N W m0 i k (crO m0 k) 0 dr b0 t s) q = true then F2 (ansN (outB N W m0 i k (crO m0 k) 0 dr b0 t s)) (nI k) (nI (k + 1)) m3 else F2 (ansN q) a (nI (k + 1)) m3 := by
  have M := H.mn hn en hi
  obtain ⟨g1, g2, g3, g4, g5, g6, g7, g8, g9, g10, g11, g12⟩ := id M
  have c12 : ¬ (12 : Int32) ≤ nI k := nI_ge (b := 12) hk (by decide)
  have hcl := clrb (T := tyO m0) (b := k) hk g11
  generalize hT' : tyO m0 &&& (2 ^ 32 - 1 - 2 ^ k) = T' at hcl
  have M2 : MN x (gsI m 0 3 (nI T')) N i (wkd (W i)) (vO m0 i) (rowO m0 i) (crO m0) T' := by
    refine ⟨g1.fr (fun _ _ _ => rfl) (fun _ => rfl) (fun o c q => by rw [gI_n (by omega), A.1 _ _ (by omega)]), g2.fr rfl (by rw [gI_n (by omega), A.1 _ _ (by omega)]) (by rw [gI_n (by omega), A.1 _ _ (by omega)]), g3, g4, g5, g6, ?_, ?_, ?_, fun o ho => ?_, hcl.2, gI_y ⟨rfl, rfl⟩⟩
    · rw [gI_n (by omega), A.1 _ _ (by omega)]; exact g7
    · rw [gI_n (by omega), A.1 _ _ (by omega)]; exact g8
    · intro j hj; rw [gI_n (by omega), A.1 _ _ (by omega)]; exact g9 j hj
    · rw [gI_n (by omega), A.1 _ _ (by omega)]; exact g10 o ho
  obtain ⟨m2, s1, s2⟩ := m_outBy M2 (t0 := t) (dd := 0) (dr := dr) (b := b0) (s := s) (by rw [gI_n (by omega), A.1 _ _ (by omega)]; exact H.2.2.2.2.2.2.2.1.1) (by omega) (by rw [gI_n (by omega), A.1 _ _ (by omega)]; exact ed) hdr (by omega) hb0 hs
  have hP : curP N (gsI m 0 3 (nI T')) = curP N m0 := curP_fr (by rw [gI_n (by omega), A.1 _ _ (by omega)])
  have hz : nzG (curP N m0) (wkd (W i)) (vO m0 i) (rowO m0 i) (crO m0) T' = nzB N W m0 i k (crO m0 k) 0 := by
    funext o t
    unfold nzB nzG
    by_cases h : o = k
    · subst h
      rw [if_pos rfl, ← hT', tyb_clr hk hk, if_pos rfl]; rfl
    · rw [if_neg h]
      by_cases ho : o < 12
      · rw [← hT', tyb_clr hk ho, if_neg h]; rfl
      · rw [tyb_big hcl.2 (by omega), ← tyb_big (T := tyO m0) g11 (show 12 ≤ o by omega)]; rfl
  rw [hP, hz] at s1
  have s1 : f_X12_outBy (gsI m 0 3 (nI T')) (nI i) (nI b0) (nI t) (nI s) = some (ansN (outB N W m0 i k (crO m0 k) 0 dr b0 t s), m2) := s1
  have hr : ∀ a, outB N W m0 i k (crO m0 k) 0 dr b0 t s = some a → a ≤ 40 := fun a ha => outB_le ha
  have A2 : agT m0 m2 := by
    refine ⟨fun o c q => ?_, fun o c q => (s2.2.1 o c).trans (A.2.1 o c q), fun o c => (s2.2.2 o c).trans (A.2.2 o c)⟩
    rw [s2.1 _ _ (by omega) (by omega), gI_n (by omega), A.1 o c q]
  have ebm : gI (gsI m 0 3 (nI T')) 4 i = nI b0 := by rw [gI_n (by omega), A.1 _ _ (by omega)]; exact eb
  have etm : gI (gsI m 0 3 (nI T')) 0 1 = nI t := by rw [gI_n (by omega), A.1 _ _ (by omega)]; exact et
  have esm : gI (gsI m 0 3 (nI T')) 0 2 = nI s := by rw [gI_n (by omega), A.1 _ _ (by omega)]; exact es
  refine ⟨m2, A2, fun F2 => ?_⟩
  unfold s_X12_away_28 f_X12_has f_X12_outNow
  rw [if_neg c12, shr (by omega) hk, h1, if_pos (show nI 1 = 1 from rfl), bd_s, jn_s, if_neg (show ¬ (1 : Int32) = 0 by decide), hcl.1, lt1_s, if_pos (okN (show i < 4 by omega) (by decide)), ixN (by omega), ebm, etm, esm, s1, bd2_s, bd2_s, m_fewer hr hq]
  dsimp only
  rw [lt1_s, lt1_s, nI_1]
theorem m_away_skip {i k : Nat} (hk : k < 12) (hT : tyO m0 < 2 ^ 31) {a : Int32} {q : Option Nat} (j5 : Int32 → gMem → Option (Int32 × gMem)) (h0 : tyb (tyO m0) k = 0) (F2 : Int32 → Int32 → Int32 → gMem → Option (Int32 × gMem)) : s_X12_away_28 j5 (nI (tyO m0)) (nI i) F2 (ansN q) a (nI k) m = F2 (ansN q) a (nI (k + 1)) m := by
  have c12 : ¬ (12 : Int32) ≤ nI k := nI_ge (b := 12) hk (by decide)
  unfold s_X12_away_28 f_X12_has
  rw [if_neg c12, shr hT hk, h0, if_neg (show ¬ nI 0 = 1 by decide), bd_s, jn_s, if_pos (show (0 : Int32) = 0 from rfl)]
  dsimp only
  rw [lt1_s, nI_1]
theorem x_away_step (H : Rel L W N x m0) {n i dr b0 t s k : Nat} (hn : n ≤ 4) (en : gI m0 0 0 = nI n) (hi : i < n) (hL : LT x (nzO N W m0 i) (depN (curP N m0)) (tmN (wkd (W i))) dr) (eb : gI m0 4 i = nI b0) (hb0 : b0 < 12) (et : gI m0 0 1 = nI t) (ht : t ≤ 9992) (es : gI m0 0 2 = nI s) (hs : s ≤ 2) (hdr : dr < 12) (hk : k < 12) {a : Int32} {q : Option Nat} (hq : ∀ a, q = some a → a ≤ 40) : ∃ x3, Rel L W N x3 m0 ∧ LT x3 (nzO N W m0 i) (depN (curP N m0)) (tmN (wkd (W i))) dr ∧ ∀ F1 : Int32 → Int32 → Int32 → gMem → Option (Int32 × gMem), s_X11_bestChange_34 L (W i) 1 F1 (ansN q) a (nI k) x = if tyb (tyO m0) k = 0 then F1 (ansN q) a (nI (k + 1)) x3 else if fewr (outB N W m0 i k (crO m0 k) 0 dr b0 t s) q = true then F1 (ansN (outB N W m0 i k (crO m0 k) 0 dr b0 t s)) (nI k) (nI (k + 1)) x3 else F1 (ansN q) a (nI (k + 1)) x3 := by
  have M := H.mn hn en hi
  obtain ⟨hN, hC, h3', h4, h5, h6, h7, h8, h9, h10, h11, h12⟩ := id M
  have ecr := (h10 k hk).2
  have hcr := (h10 k hk).1
  have ex1 : gI x 11 k = gI m0 1 k := H.1.2.1.1 k hk
  have ex2 : gI x 10 1 = gI m0 0 3 := H.1.1.1
  have hsr := shr (T := tyO m0) (b := k) (by omega) hk
  have c12 : ¬ (12 : Int32) ≤ nI k := nI_ge (b := 12) hk (by decide)
  have hr : ∀ a, outB N W m0 i k (crO m0 k) 0 dr b0 t s = some a → a ≤ 40 := fun a ha => outB_le ha
  have ht2 := tyb_lt (tyO m0) k
  have n10 : ¬ (1 : Int32) = 0 := by decide
  by_cases h0 : tyb (tyO m0) k = 0
  · refine ⟨x, H, hL, fun F1 => ?_⟩
    rw [if_pos h0]
    unfold s_X11_bestChange_34 f_X2_toyOn
    rw [if_neg c12, if_pos (okN hk (by decide)), ixN (by omega), ex1, ecr, lt1_s, ex2, h12, hsr, bd_s, jn_s, jn_s, if_neg n10, if_pos (show nI (tyb (tyO m0) k) = 0 by rw [h0]; rfl)]
    dsimp only
    rw [lt1_s, nI_1]
  · obtain ⟨x3, t1, t2, t3⟩ := H.xchg hn en hi hL hdr hk hb0 eb et (by omega) es hs (cr := crO m0 k) (ty := 0) hcr (by omega) (c := nI (crO m0 k)) (y := 0) rfl rfl
    refine ⟨x3, t2, t3, fun F1 => ?_⟩
    rw [if_neg h0]
    unfold s_X11_bestChange_34 f_X2_toyOn
    rw [if_neg c12, if_pos (okN hk (by decide)), ixN (by omega), ex1, ecr, lt1_s, ex2, h12, hsr, bd_s, jn_s, jn_s, if_neg n10, if_neg (nI_ne0 (by omega) (by omega)), jn_s, if_neg n10]
    dsimp only
    rw [jn_s, if_neg n10]
    dsimp only
    rw [t1 (fun (x18 : Int32) (m19 : gMem) => bd (f_X11_isFewer x18 (ansN q)) fun (x20 : Int32) => if x20 = 0 then (lt1 (nI k + (1 : Int32)) fun (x24 : Int32) => F1 (ansN q) a x24 m19) else lt1 (nI k + (1 : Int32)) fun (x24 : Int32) => F1 x18 (nI k) x24 m19)]
    rw [x_isFewer hr hq, bd_s]
    simp only [lt1]
    rw [nI_1]
    by_cases hf : fewr (outB N W m0 i k (crO m0 k) 0 dr b0 t s) q = true
    · rw [if_pos hf, if_pos hf, if_neg (show ¬ nI 1 = 0 by decide)]
    · rw [if_neg hf, if_neg hf, if_pos (show nI 0 = 0 from rfl)]
theorem away_loop {n i dr b0 t s : Nat} (hn : n ≤ 4) (en : gI m0 0 0 = nI n) (hi : i < n) (eb : gI m0 4 i = nI b0) (hb0 : b0 < 12) (et : gI m0 0 1 = nI t) (ht : t ≤ 9992) (es : gI m0 0 2 = nI s) (hs : s ≤ 2) (ed : gI m0 0 4 = nI dr) (hdr : dr < 12) : ∀ (d k f1 f2 : Nat) (a : Int32) (q : Option Nat) (x m : gMem), (∀ a, q = some a → a ≤ 40) → Rel L W N x m0 → agT m0 m → LT x (nzO N W m0 i) (depN (curP N m0)) (tmN (wkd (W i))) dr → d + k = 12 → d < f1 → d < f2 → Op L W N (lq4 (s_X11_bestChange_34 L (W i) 1) f1 (ansN q) a (nI k) x) (lq4 (s_X12_away_28 (fun (x21 : Int32) (m22 : gMem) => lt1 (gsI m22 0 3 (nI (tyO m0))) fun (m23 : gMem) => some (x21, m23)) (nI (tyO m0)) (nI i)) f2 (ansN q) a (nI k) m) := by
  intro d
  induction d with
  | zero =>
    intro k f1 f2 a q x m hq H A hL h1 h2 h3
    obtain ⟨f1, rfl⟩ : ∃ f, f1 = f + 1 := ⟨f1 - 1, by omega⟩
    obtain ⟨f2, rfl⟩ : ∃ f, f2 = f + 1 := ⟨f2 - 1, by omega⟩
    have M := H.mn hn en hi
    rw [lq4_u, lq4_u]
    unfold s_X11_bestChange_34 s_X12_away_28
    have c : (12 : Int32) ≤ nI k := nI_le (a := 12) (by omega) (by omega)
    rw [if_pos c, if_pos c]
    refine ⟨a, x, gsI m 0 3 (nI (tyO m0)), rfl, rfl, H.fr agX.rfl ⟨fun o c q => ?_, A.2.1, A.2.2⟩⟩
    by_cases h : o = 0 ∧ c = 3
    · rw [gI_y h, h.1, h.2]; exact M.2.2.2.2.2.2.2.2.2.2.2.symm
    · rw [gI_n h, A.1 o c (by omega)]
  | succ d IH =>
    intro k f1 f2 a q x m hq H A hL h1 h2 h3
    obtain ⟨f1, rfl⟩ : ∃ f, f1 = f + 1 := ⟨f1 - 1, by omega⟩
    obtain ⟨f2, rfl⟩ : ∃ f, f2 = f + 1 := ⟨f2 - 1, by omega⟩
    have hk : k < 12 := by omega
    have M := H.mn hn en hi
    have hTb := M.2.2.2.2.2.2.2.2.2.2.1
    have ht2 := tyb_lt (tyO m0) k
    obtain ⟨x3, t2, t3, xstep⟩ := x_away_step H hn en hi hL eb hb0 et ht es hs hdr hk (a := a) hq
    have hr : ∀ a, outB N W m0 i k (crO m0 k) 0 dr b0 t s = some a → a ≤ 40 := fun a ha => outB_le ha
    rw [lq4_u, lq4_u, xstep]
    by_cases h0 : tyb (tyO m0) k = 0
    · rw [if_pos h0, m_away_skip hk (by omega) _ h0]
      exact IH (k + 1) f1 f2 a q x3 m hq t2 A t3 (by omega) (by omega) (by omega)
    · obtain ⟨m3, A2, mstep⟩ := m_away_step H A hn en hi eb hb0 et ht es hs ed hdr hk (a := a) hq (fun (x21 : Int32) (m22 : gMem) => lt1 (gsI m22 0 3 (nI (tyO m0))) fun (m23 : gMem) => some (x21, m23)) (by omega)
      rw [if_neg h0, mstep]
      by_cases hf : fewr (outB N W m0 i k (crO m0 k) 0 dr b0 t s) q = true
      · rw [if_pos hf, if_pos hf]
        exact IH (k + 1) f1 f2 (nI k) _ x3 m3 hr t2 A2 t3 (by omega) (by omega) (by omega)
      · rw [if_neg hf, if_neg hf]
        exact IH (k + 1) f1 f2 a q x3 m3 hq t2 A2 t3 (by omega) (by omega) (by omega)
theorem op_away (H : Rel L W N x m) (p0 : Int32) : Op L W N (f_X11_away L x p0) (f_X12_away m p0) := by
  obtain ⟨n, hn, en, hW⟩ := H.2.1
  unfold f_X11_away f_X12_away
  rw [x_find H hn en, m_isWalker hn en]
  rcases p_in p0 n (by omega) with ⟨i, hi, rfl⟩ | h | h
  rotate_left
  · exact ⟨-1, x, m, by simp (disch := omega) only [lt1, jn, bd_s, bd2_s, oc_s, oc_n, li0, li1, li2, li3, li4, li5, li6, li7, li8, li9, li10, li11, li12, li13, li14, li16, li20, li21, li22, li24, li30, li31, li33, li38, li39, li40, li41, li45, li48, li50, li51, li57, li58, li59, li60, li61, li62, li64, li70, li71, li72, li99, li100, li101, li104, li107, li109, li116, li120, li121, li124, li127, li128, li144, li255, li300, li360, li372, li396, li600, li999, li1000, li9960, li9990, li1000000, nI_1, nI_add, pk_sub, pk_mul, pk_div, rem_nI, i_lt, i_le, i_eq, okI, ix, isB, nI_clamp, nI_toInt, tneg, gI_sI, gR_sI, gJ_sI, gI_sR, gR_sR, gJ_sR, gI_sJ, gR_sJ, gJ_sJ, true_and, and_true, false_and, and_false, if_true, if_false, if_pos, if_neg], by simp (disch := omega) only [lt1, jn, bd_s, bd2_s, oc_s, oc_n, li0, li1, li2, li3, li4, li5, li6, li7, li8, li9, li10, li11, li12, li13, li14, li16, li20, li21, li22, li24, li30, li31, li33, li38, li39, li40, li41, li45, li48, li50, li51, li57, li58, li59, li60, li61, li62, li64, li70, li71, li72, li99, li100, li101, li104, li107, li109, li116, li120, li121, li124, li127, li128, li144, li255, li300, li360, li372, li396, li600, li999, li1000, li9960, li9990, li1000000, nI_1, nI_add, pk_sub, pk_mul, pk_div, rem_nI, i_lt, i_le, i_eq, okI, ix, isB, nI_clamp, nI_toInt, tneg, gI_sI, gR_sI, gJ_sI, gI_sR, gR_sR, gJ_sR, gI_sJ, gR_sJ, gJ_sJ, true_and, and_true, false_and, and_false, if_true, if_false, if_pos, if_neg], H⟩
  · exact ⟨-1, x, m, by simp (disch := omega) only [lt1, jn, bd_s, bd2_s, oc_s, oc_n, li0, li1, li2, li3, li4, li5, li6, li7, li8, li9, li10, li11, li12, li13, li14, li16, li20, li21, li22, li24, li30, li31, li33, li38, li39, li40, li41, li45, li48, li50, li51, li57, li58, li59, li60, li61, li62, li64, li70, li71, li72, li99, li100, li101, li104, li107, li109, li116, li120, li121, li124, li127, li128, li144, li255, li300, li360, li372, li396, li600, li999, li1000, li9960, li9990, li1000000, nI_1, nI_add, pk_sub, pk_mul, pk_div, rem_nI, i_lt, i_le, i_eq, okI, ix, isB, nI_clamp, nI_toInt, tneg, gI_sI, gR_sI, gJ_sI, gI_sR, gR_sR, gJ_sR, gI_sJ, gR_sJ, gJ_sJ, true_and, and_true, false_and, and_false, if_true, if_false, if_pos, if_neg], by simp (disch := omega) only [lt1, jn, bd_s, bd2_s, oc_s, oc_n, li0, li1, li2, li3, li4, li5, li6, li7, li8, li9, li10, li11, li12, li13, li14, li16, li20, li21, li22, li24, li30, li31, li33, li38, li39, li40, li41, li45, li48, li50, li51, li57, li58, li59, li60, li61, li62, li64, li70, li71, li72, li99, li100, li101, li104, li107, li109, li116, li120, li121, li124, li127, li128, li144, li255, li300, li360, li372, li396, li600, li999, li1000, li9960, li9990, li1000000, nI_1, nI_add, pk_sub, pk_mul, pk_div, rem_nI, i_lt, i_le, i_eq, okI, ix, isB, nI_clamp, nI_toInt, tneg, gI_sI, gR_sI, gJ_sI, gI_sR, gR_sR, gJ_sR, gI_sJ, gR_sJ, gJ_sJ, true_and, and_true, false_and, and_false, if_true, if_false, if_pos, if_neg], H⟩
  obtain ⟨q1, q2, q3, q4, q5, q6, q7, ⟨b, hb, eb⟩, q9⟩ := hW.1 i hi
  have z3 := q1.1
  have M := H.mn hn en hi
  obtain ⟨t, ht, et⟩ : rg (gI m 0 1) 9992 := H.1.2.2.2.1
  obtain ⟨s, hs, es⟩ : rg (gI m 0 2) 2 := H.1.2.2.2.2.1
  obtain ⟨d, hd, ed⟩ : rg (gI m 0 4) 11 := H.1.2.2.2.2.2.2.1
  have ex4 : gI x 10 4 = gI m 0 1 := H.1.1.2.2.2.1
  have ex5 : gI x 10 5 = gI m 0 2 := H.1.1.2.2.2.2.1
  obtain ⟨x1, e1, H1, L1, k1⟩ := x_learn H hn en hi ed
  obtain ⟨x2, r1, r2⟩ := H1.xout hn en hi (e := 0) L1 (by omega) (b := b) (t := t) (s := s) (by omega) (by omega) hs (by omega)
  obtain ⟨m2, s1, s2⟩ := H.mout agM.rfl hn en hi ed (by omega) (b := b) (t := t) (s := s) (by omega) (by omega) hs
  have w2 : gI x1 (W i) 2 = nI b := by rw [k1 _ _ (by omega) (by omega), q7, eb]
  have w4 : gI x1 10 4 = nI t := by rw [k1 _ _ (by omega) (by omega), ex4, et]
  have w5 : gI x1 10 5 = nI s := by rw [k1 _ _ (by omega) (by omega), ex5, es]
  have w6 : gI m2 0 3 = nI (tyO m) := (s2.1 _ _ (by decide) (by decide)).trans M.2.2.2.2.2.2.2.2.2.2.2
  obtain ⟨a, x', m', a1, a2, a3⟩ := away_loop (L := L) (W := W) (N := N) (m0 := m) hn en hi eb (by omega) et ht es hs ed (by omega) 12 0 1000 1000 (-5) _ x2 m2 (fun a ha => outN_le ha) (H1.fr r2.ag agM.rfl) s2.ag.toT (L1.f35 r2) rfl (by decide) (by decide)
  refine ⟨a, x', m', ?_, ?_, a3⟩
  · unfold f_X11_bestChange
    rw [if_pos (okN hi (by omega)), bd_s, oc_s, ixN (by omega), if_pos q1, e1, bd_s, w2, w4, w5, li0, r1, bd2_s, a1]; rfl
  · unfold f_X12_outNow
    rw [if_pos (okN hi (by omega)), bd_s, if_neg (by decide), if_pos (okN (show i < 4 by omega) (by decide)), ixN (by omega), eb, et, es, s1, bd2_s, bd2_s, lt1_s, jn_s, w6, li0, a2]
end V3
