/-! deeper -/
theorem sbN_mono {n d d' s s' : Nat} (hd : d ≤ d') (hs : s' ≤ s) (h2 : s ≤ 2) : sbN n d' s' ≤ sbN n d s := by
  unfold sbN
  by_cases h1 : n ≤ d <;> by_cases h3 : 2 * n ≤ d <;> by_cases h4 : n ≤ d' <;> by_cases h5 : 2 * n ≤ d' <;> simp only [h1, h3, h4, h5, if_true, if_false] <;> omega
theorem spT_mono {T T' : Nat → Nat} {tm g b dt dt' : Nat} {nzf : Nat → Nat} (hT : ∀ k, T' k ≤ T k) (hd : dt ≤ dt') (k : Nat) : spT T' tm g b nzf dt' k ≤ spT T tm g b nzf dt k := by
  by_cases h3 : 3 ≤ T (g * 12 + b)
  · refine Nat.le_trans (spT_le k) ?_
    rw [spT, if_pos h3]
    exact hT k
  · have hs := hT (g * 12 + b)
    have hk := hT k
    have hsb := sbN_mono (n := nzf (k % 12)) hd hs (by omega)
    unfold spT
    rw [if_neg h3, if_neg (by omega)]
    by_cases hk1 : k = (g + 1) * 12 + b
    · rw [if_pos hk1, if_pos hk1]; omega
    · rw [if_neg hk1, if_neg hk1]
      by_cases hk2 : k / 12 = g + tm ∧ bes b (k % 12) = true
      · rw [if_pos hk2, if_pos hk2]; omega
      · rw [if_neg hk2, if_neg hk2]; exact hk
theorem swT_mono {T T' : Nat → Nat} {tm g dt dt' : Nat} {nzf : Nat → Nat} (hT : ∀ k, T' k ≤ T k) (hd : dt ≤ dt') : ∀ (n k : Nat), swT T' tm g nzf dt' n k ≤ swT T tm g nzf dt n k
  | 0, k => hT k
  | n + 1, k => spT_mono (swT_mono hT hd n) hd k
theorem fwN_mono {nz : Nat → Nat → Nat} {dp dp' : Nat → Nat} {tm dr t0 : Nat} (hd : ∀ t, dp t ≤ dp' t) : ∀ (f : Nat) (T T' : Nat → Nat) (g : Nat), (∀ k, T' k ≤ T k) → fwN nz dp tm dr t0 f T g ≠ none → fwN nz dp' tm dr t0 f T' g ≠ none
  | 0, _, _, _, _, h => absurd rfl h
  | f + 1, T, T', g, hT, h => by
    have hs := hT (g * 12 + dr)
    unfold fwN at h ⊢
    by_cases h1 : T' (g * 12 + dr) < 3
    · rw [if_pos h1]; simp
    · rw [if_neg (by omega)] at h
      rw [if_neg h1]
      exact fwN_mono hd f _ _ _ (swT_mono hT (hd _) 12) h
/-- the least that does, from n on -/
def dpS (F : Nat → Option Nat) : Nat → Nat → Option Nat
  | 0, _ => none
  | f + 1, n => if F n = none then dpS F f (n + 1) else some n
theorem dpS_some {F : Nat → Option Nat} : ∀ (f n h : Nat), n ≤ h → h < n + f → (∀ j, n ≤ j → j < h → F j = none) → F h ≠ none → dpS F f n = some h
  | 0, n, h, h1, h2, _, _ => by omega
  | f + 1, n, h, h1, h2, h3, h4 => by
    unfold dpS
    by_cases e : n = h
    · subst e; rw [if_neg h4]
    · rw [if_pos (h3 n (Nat.le_refl _) (by omega))]
      exact dpS_some f (n + 1) h (by omega) (by omega) (fun j p q => h3 j (by omega) q) h4
theorem dpS_none {F : Nat → Option Nat} : ∀ (f n : Nat), (∀ j, n ≤ j → j < n + f → F j = none) → dpS F f n = none
  | 0, _, _ => rfl
  | f + 1, n, h => by
    unfold dpS
    rw [if_pos (h n (Nat.le_refl _) (by omega))]
    exact dpS_none f (n + 1) (fun j p q => h j (by omega) (by omega))
theorem dpS_le {F : Nat → Option Nat} : ∀ (f n a : Nat), dpS F f n = some a → a < n + f
  | 0, _, _, h => by cases h
  | f + 1, n, a, h => by
    unfold dpS at h
    split at h
    · have := dpS_le f (n + 1) a h; omega
    · cases h; omega
def agD (m m' : gMem) : Prop := (∀ o k, ¬ (o = 13 ∨ o = 15 ∨ (17 ≤ o ∧ o ≤ 20) ∨ o = 39 ∨ (o = 0 ∧ ((32 ≤ k ∧ k ≤ 34) ∨ k = 39 ∨ k = 40 ∨ k = 29))) → gI m' o k = gI m o k) ∧ (∀ o k, o ≠ 39 → gJ m' o k = gJ m o k) ∧ ∀ o k, gR m' o k = gR m o k
section V4
variable {L : List Nat} {W : Nat → Nat} {N : Nat → List cls} {x m x' m' m0 : gMem}
theorem out_mono {i dr b t s e e' : Nat} (he : e ≤ e') (h : outN N W m i dr b t s e ≠ none) : outN N W m i dr b t s e' ≠ none :=
  fwN_mono (fun t => by (try dsimp only); omega) 31 _ _ 0 (fun _ => Nat.le_refl _) h
theorem x_deeper_loop {n i dr b t s : Nat} (hn : n ≤ 4) (en : gI m0 0 0 = nI n) (hi : i < n) (eb : gI m0 4 i = nI b) (hb : b < 12) (et : gI m0 0 1 = nI t) (ht : t ≤ 9992) (es : gI m0 0 2 = nI s) (hs : s ≤ 2) (hdr : dr < 12) (J : Int32 → gMem → Option (Int32 × gMem)) : ∀ (d k f1 lo hi' : Nat) (x : gMem), Rel L W N x m0 → LT x (nzO N W m0 i) (depN (curP N m0)) (tmN (wkd (W i))) dr → lo ≤ hi' → hi' ≤ 31 → hi' + 1 ≤ 32 - k + lo → (∀ j, j < lo → outN N W m0 i dr b t s j = none) → (hi' = 31 ∨ outN N W m0 i dr b t s hi' ≠ none) → d + k = 31 → d < f1 → ∃ h x', lq4 (s_X11_deeper_33 J L (W i)) f1 (nI lo - 1) (nI hi') (nI k) x = J (nI h) x' ∧ Rel L W N x' m0 ∧ h ≤ 31 ∧ (∀ j, j < h → outN N W m0 i dr b t s j = none) ∧ (h = 31 ∨ outN N W m0 i dr b t s h ≠ none) := by
  have hgap : ∀ lo h : Nat, lo ≤ h → h ≤ 31 → (nI h - (nI lo - 1) ≤ (1 : Int32)) = (h ≤ lo) := by
    intro lo h h1 h2
    have e : (nI h - (nI lo - 1)).toInt = (h : Int) - lo + 1 := by
      rw [Int32.toInt_sub, nI_m1 (by omega), nI_toInt (by omega)]
      simp only [Int.bmod]
      split <;> omega
    rw [i_le, e]
    exact propext ⟨fun q => by have : (1 : Int32).toInt = 1 := rfl; omega, fun q => by have : (1 : Int32).toInt = 1 := rfl; omega⟩
  have hmid : ∀ lo h : Nat, lo < h → h ≤ 31 → (nI lo - 1 + nI h) / (2 : Int32) = nI ((lo + h - 1) / 2) := by
    intro lo h h1 h2
    have e : nI lo - 1 + nI h = nI (lo + h - 1) := by
      apply Int32.toInt_inj.mp
      rw [Int32.toInt_add, nI_m1 (by omega), nI_toInt (by omega), nI_toInt (by omega)]
      simp only [Int.bmod]
      split <;> omega
    rw [e, li2, pk_div (by omega) (by decide) (by decide)]
  intro d
  induction d with
  | zero =>
    intro k f1 lo hi' x H hL h1 h2 h3 h4 h5 h6 h7
    obtain ⟨f1, rfl⟩ : ∃ f, f1 = f + 1 := ⟨f1 - 1, by omega⟩
    refine ⟨hi', x, ?_, H, h2, fun j hj => h4 j (by omega), h5⟩
    rw [lq4_u]
    generalize lq4 (s_X11_deeper_33 J L (W i)) f1 = F
    unfold s_X11_deeper_33
    rw [if_pos (show (30 : Int32) < nI k from nI_lt (a := 30) (by omega) (by omega))]
  | succ d IH =>
    intro k f1 lo hi' x H hL h1 h2 h3 h4 h5 h6 h7
    obtain ⟨f1, rfl⟩ : ∃ f, f1 = f + 1 := ⟨f1 - 1, by omega⟩
    have c30 : ¬ (30 : Int32) < nI k := nI_nlt (a := 30) (by omega) (by decide)
    by_cases hg : hi' ≤ lo
    · refine ⟨hi', x, ?_, H, h2, fun j hj => h4 j (by omega), h5⟩
      rw [lq4_u]
      generalize lq4 (s_X11_deeper_33 J L (W i)) f1 = F
      unfold s_X11_deeper_33
      rw [if_neg c30, if_pos ((hgap lo hi' h1 h2).mpr hg)]
    · have hq1 : lo ≤ (lo + hi' - 1) / 2 := by omega
      have hq2 : (lo + hi' - 1) / 2 < hi' := by omega
      have hmid' := hmid lo hi' (by omega) h2
      generalize (lo + hi' - 1) / 2 = q at *
      obtain ⟨q1, q2, q3, q4, q5, q6, q7, q8, q9⟩ := (H.2.1.w en hn).1 i hi
      have ex4 : gI x 10 4 = gI m0 0 1 := H.1.1.2.2.2.1
      have ex5 : gI x 10 5 = gI m0 0 2 := H.1.1.2.2.2.2.1
      obtain ⟨x2, r1, r2⟩ := H.xout hn en hi (e := q) hL hdr (b := b) (t := t) (s := s) hb (by omega) hs (by omega)
      have hr : ∀ a, outN N W m0 i dr b t s q = some a → a ≤ 40 := fun a ha => outN_le ha
      have step : ∀ F : Int32 → Int32 → Int32 → gMem → Option (Int32 × gMem), s_X11_deeper_33 J L (W i) F (nI lo - 1) (nI hi') (nI k) x = if outN N W m0 i dr b t s q = none then F (nI q) (nI hi') (nI (k + 1)) x2 else F (nI lo - 1) (nI q) (nI (k + 1)) x2 := by
        intro F
        unfold s_X11_deeper_33
        rw [if_neg c30, if_neg (fun z => hg ((hgap lo hi' h1 h2).mp z)), hmid', lt1_s, q7, eb, ex4, et, ex5, es, r1, bd2_s, jn_s]
        by_cases hz : outN N W m0 i dr b t s q = none
        · rw [if_pos ((ansN_5 hr).mpr hz), if_pos hz]
          dsimp only
          rw [lt1_s, nI_1]
        · rw [if_neg (fun z => hz ((ansN_5 hr).mp z)), if_neg hz]
          dsimp only
          rw [lt1_s, nI_1]
      rw [lq4_u, step]
      by_cases hz : outN N W m0 i dr b t s q = none
      · obtain ⟨h, x', a1, a2⟩ := IH (k + 1) f1 (q + 1) hi' x2 (H.fr r2.ag agM.rfl) (hL.f35 r2) (by omega) h2 (by omega) (fun j hj => by
          by_cases e : outN N W m0 i dr b t s j = none
          · exact e
          · exact absurd hz (out_mono (by omega) e)) h5 (by omega) (by omega)
        refine ⟨h, x', ?_, a2⟩
        have e : nI (q + 1) - 1 = nI q := nI_pred q
        rw [e] at a1
        rw [if_pos hz, a1]
      · obtain ⟨h, x', a1, a2⟩ := IH (k + 1) f1 lo q x2 (H.fr r2.ag agM.rfl) (hL.f35 r2) hq1 (by omega) (by omega) h4 (Or.inr hz) (by omega) (by omega)
        refine ⟨h, x', ?_, a2⟩
        rw [if_neg hz, a1]
theorem m_deeper_loop (H : Rel L W N x m0) {n i dr b t s : Nat} (hn : n ≤ 4) (en : gI m0 0 0 = nI n) (hi : i < n) (eb : gI m0 4 i = nI b) (hb : b < 12) (et : gI m0 0 1 = nI t) (ht : t ≤ 9992) (es : gI m0 0 2 = nI s) (hs : s ≤ 2) (ed : gI m0 0 4 = nI dr) (hdr : dr < 12) (J : Int32 → gMem → Option (Int32 × gMem)) : ∀ (d k f : Nat) (m : gMem), agD m0 m → d + k = 31 → d + 1 < f → ∃ m', lq3 (s_X12_deeper_15 J (nI i)) f (-5) (nI k) m = J (ansN (dpS (outN N W m0 i dr b t s) d k)) m' ∧ agD m0 m' := by
  intro d
  induction d with
  | zero =>
    intro k f m A h1 h2
    obtain ⟨f, rfl⟩ : ∃ g, f = g + 1 := ⟨f - 1, by omega⟩
    refine ⟨m, ?_, A⟩
    rw [lq3_u]
    generalize lq3 (s_X12_deeper_15 J (nI i)) f = F
    unfold s_X12_deeper_15
    rw [if_pos (show (31 : Int32) ≤ nI k from nI_le (a := 31) (by omega) (by omega))]
    rfl
  | succ d IH =>
    intro k f m A h1 h2
    obtain ⟨f, rfl⟩ : ∃ g, f = g + 1 := ⟨f - 1, by omega⟩
    have c31 : ¬ (31 : Int32) ≤ nI k := nI_ge (b := 31) (by omega) (by decide)
    have M := H.mn hn en hi
    have M2 : MN x (gsI m 0 29 (nI k)) N i (wkd (W i)) (vO m0 i) (rowO m0 i) (crO m0) (tyO m0) := M.fr (fun o c q => by rw [gI_n (by omega), A.1 _ _ (by omega)])
    obtain ⟨m2, s1, s2⟩ := m_outBy M2 (t0 := t) (dd := k) (dr := dr) (b := b) (s := s) (gI_y ⟨rfl, rfl⟩) (by omega) (by rw [gI_n (by omega), A.1 _ _ (by omega)]; exact ed) hdr (by omega) hb hs
    have hP : curP N (gsI m 0 29 (nI k)) = curP N m0 := curP_fr (by rw [gI_n (by omega), A.1 _ _ (by omega)])
    rw [hP] at s1
    have s1 : f_X12_outBy (gsI m 0 29 (nI k)) (nI i) (nI b) (nI t) (nI s) = some (ansN (outN N W m0 i dr b t s k), m2) := s1
    have hr : ∀ a, outN N W m0 i dr b t s k = some a → a ≤ 40 := fun a ha => outN_le ha
    have A2 : agD m0 m2 := by
      refine ⟨fun o c q => ?_, fun o c q => (s2.2.1 o c).trans (A.2.1 o c q), fun o c => (s2.2.2 o c).trans (A.2.2 o c)⟩
      rw [s2.1 _ _ (by omega) (by omega), gI_n (by omega), A.1 o c q]
    have ebm : gI (gsI m 0 29 (nI k)) 4 i = nI b := by rw [gI_n (by omega), A.1 _ _ (by omega)]; exact eb
    have etm : gI (gsI m 0 29 (nI k)) 0 1 = nI t := by rw [gI_n (by omega), A.1 _ _ (by omega)]; exact et
    have esm : gI (gsI m 0 29 (nI k)) 0 2 = nI s := by rw [gI_n (by omega), A.1 _ _ (by omega)]; exact es
    have step : ∀ F : Int32 → Int32 → gMem → Option (Int32 × gMem), s_X12_deeper_15 J (nI i) F (-5) (nI k) m = if outN N W m0 i dr b t s k = none then F (-5) (nI (k + 1)) m2 else F (nI k) (nI (k + 1)) m2 := by
      intro F
      unfold s_X12_deeper_15 f_X12_outNow
      rw [if_neg c31, if_neg (show ¬ (0 : Int32) ≤ -5 by decide), lt1_s, if_pos (okN (show i < 4 by omega) (by decide)), ixN (by omega), ebm, etm, esm, s1, bd2_s, bd2_s, jn_s]
      by_cases hz : outN N W m0 i dr b t s k = none
      · rw [if_pos hz, if_neg (fun q => ((ansN_pos hr).mp q) hz)]
        dsimp only
        rw [lt1_s, nI_1]
      · rw [if_neg hz, if_pos ((ansN_pos hr).mpr hz)]
        dsimp only
        rw [lt1_s, nI_1]
    rw [lq3_u, step, dpS]
    by_cases hz : outN N W m0 i dr b t s k = none
    · rw [if_pos hz, if_pos hz]
      exact IH (k + 1) f m2 A2 (by omega) (by omega)
    · rw [if_neg hz, if_neg hz]
      obtain ⟨f, rfl⟩ : ∃ g, f = g + 1 := ⟨f - 1, by omega⟩
      refine ⟨m2, ?_, A2⟩
      rw [lq3_u]
      generalize lq3 (s_X12_deeper_15 J (nI i)) f = F
      unfold s_X12_deeper_15
      by_cases h31 : (31 : Int32) ≤ nI (k + 1)
      · rw [if_pos h31]; rfl
      · rw [if_neg h31, if_pos (nI_pos' (by omega))]; rfl
theorem op_deeper (H : Rel L W N x m) (p0 : Int32) : Op L W N (f_X11_deeper L x p0) (f_X12_deeper m p0) := by
  obtain ⟨n, hn, en, hW⟩ := H.2.1
  unfold f_X11_deeper f_X12_deeper
  rw [x_find H hn en, m_isWalker hn en]
  rcases p_in p0 n (by omega) with ⟨i, hi, rfl⟩ | h | h
  rotate_left
  · exact ⟨-1, x, m, by simp (disch := omega) only [lt1, jn, bd_s, bd2_s, oc_s, oc_n, li0, li1, li2, li3, li4, li5, li6, li7, li8, li9, li10, li11, li12, li13, li14, li16, li20, li21, li22, li24, li30, li31, li33, li38, li39, li40, li41, li45, li48, li50, li51, li57, li58, li59, li60, li61, li62, li64, li70, li71, li72, li99, li100, li101, li104, li107, li109, li116, li120, li121, li124, li127, li128, li144, li255, li300, li360, li372, li396, li600, li999, li1000, li9960, li9990, li1000000, nI_1, nI_add, pk_sub, pk_mul, pk_div, rem_nI, i_lt, i_le, i_eq, okI, ix, isB, nI_clamp, nI_toInt, tneg, gI_sI, gR_sI, gJ_sI, gI_sR, gR_sR, gJ_sR, gI_sJ, gR_sJ, gJ_sJ, true_and, and_true, false_and, and_false, if_true, if_false, if_pos, if_neg], by simp (disch := omega) only [lt1, jn, bd_s, bd2_s, oc_s, oc_n, li0, li1, li2, li3, li4, li5, li6, li7, li8, li9, li10, li11, li12, li13, li14, li16, li20, li21, li22, li24, li30, li31, li33, li38, li39, li40, li41, li45, li48, li50, li51, li57, li58, li59, li60, li61, li62, li64, li70, li71, li72, li99, li100, li101, li104, li107, li109, li116, li120, li121, li124, li127, li128, li144, li255, li300, li360, li372, li396, li600, li999, li1000, li9960, li9990, li1000000, nI_1, nI_add, pk_sub, pk_mul, pk_div, rem_nI, i_lt, i_le, i_eq, okI, ix, isB, nI_clamp, nI_toInt, tneg, gI_sI, gR_sI, gJ_sI, gI_sR, gR_sR, gJ_sR, gI_sJ, gR_sJ, gJ_sJ, true_and, and_true, false_and, and_false, if_true, if_false, if_pos, if_neg], H⟩
  · exact ⟨-1, x, m, by simp (disch := omega) only [lt1, jn, bd_s, bd2_s, oc_s, oc_n, li0, li1, li2, li3, li4, li5, li6, li7, li8, li9, li10, li11, li12, li13, li14, li16, li20, li21, li22, li24, li30, li31, li33, li38, li39, li40, li41, li45, li48, li50, li51, li57, li58, li59, li60, li61, li62, li64, li70, li71, li72, li99, li100, li101, li104, li107, li109, li116, li120, li121, li124, li127, li128, li144, li255, li300, li360, li372, li396, li600, li999, li1000, li9960, li9990, li1000000, nI_1, nI_add, pk_sub, pk_mul, pk_div, rem_nI, i_lt, i_le, i_eq, okI, ix, isB, nI_clamp, nI_toInt, tneg, gI_sI, gR_sI, gJ_sI, gI_sR, gR_sR, gJ_sR, gI_sJ, gR_sJ, gJ_sJ, true_and, and_true, false_and, and_false, if_true, if_false, if_pos, if_neg], by simp (disch := omega) only [lt1, jn, bd_s, bd2_s, oc_s, oc_n, li0, li1, li2, li3, li4, li5, li6, li7, li8, li9, li10, li11, li12, li13, li14, li16, li20, li21, li22, li24, li30, li31, li33, li38, li39, li40, li41, li45, li48, li50, li51, li57, li58, li59, li60, li61, li62, li64, li70, li71, li72, li99, li100, li101, li104, li107, li109, li116, li120, li121, li124, li127, li128, li144, li255, li300, li360, li372, li396, li600, li999, li1000, li9960, li9990, li1000000, nI_1, nI_add, pk_sub, pk_mul, pk_div, rem_nI, i_lt, i_le, i_eq, okI, ix, isB, nI_clamp, nI_toInt, tneg, gI_sI, gR_sI, gJ_sI, gI_sR, gR_sR, gJ_sR, gI_sJ, gR_sJ, gJ_sJ, true_and, and_true, false_and, and_false, if_true, if_false, if_pos, if_neg], H⟩
  obtain ⟨q1, q2, q3, q4, q5, q6, q7, ⟨b, hb, eb⟩, q9⟩ := hW.1 i hi
  obtain ⟨t, ht, et⟩ : rg (gI m 0 1) 9992 := H.1.2.2.2.1
  obtain ⟨s, hs, es⟩ : rg (gI m 0 2) 2 := H.1.2.2.2.2.1
  obtain ⟨d, hd, ed⟩ : rg (gI m 0 4) 11 := H.1.2.2.2.2.2.2.1
  obtain ⟨x1, e1, H1, L1, k1⟩ := x_learn H hn en hi ed
  obtain ⟨h, x', r1, r2, r3, r4, r5⟩ := x_deeper_loop (L := L) (W := W) (N := N) (m0 := m) hn en hi eb (by omega) et ht es hs (by omega) (fun (x17 : Int32) (m18 : gMem) => if x17 ≤ (30 : Int32) then (some (x17, m18)) else some ((-5 : Int32), m18)) 31 0 1000 0 31 x1 H1 L1 (by omega) (by omega) (by omega) (fun j hj => by omega) (Or.inl rfl) rfl (by decide)
  obtain ⟨m', s1, s2⟩ := m_deeper_loop H hn en hi eb (by omega) et ht es hs ed (by omega) (fun (x13 : Int32) (m14 : gMem) => lt1 (gsI m14 0 29 (0 : Int32)) fun (m15 : gMem) => some (x13, m15)) 31 0 1000 m ⟨fun _ _ _ => rfl, fun _ _ _ => rfl, fun _ _ => rfl⟩ rfl (by decide)
  have hans : dpS (outN N W m i d b t s) 31 0 = if h ≤ 30 then some h else none := by
    by_cases h30 : h ≤ 30
    · rw [if_pos h30]
      exact dpS_some 31 0 h (by omega) (by omega) (fun j _ q => r4 j q) (by rcases r5 with q | q; omega; exact q)
    · rw [if_neg h30]
      exact dpS_none 31 0 (fun j _ q => r4 j (by omega))
  rw [hans] at s1
  refine ⟨ansN (if h ≤ 30 then some h else none), x', gsI m' 0 29 (nI 0), ?_, ?_, r2.fr agX.rfl ⟨fun o c q => ?_, s2.2.1, s2.2.2⟩⟩
  · have e0 : nI 0 - 1 = (-1 : Int32) := by decide
    rw [if_pos (okN hi (by omega)), bd_s, oc_s, ixN (by omega), if_pos q1, e1, bd_s, jn_s, ← e0]
    refine Eq.trans r1 ?_
    by_cases h30 : h ≤ 30
    · rw [if_pos h30, if_pos (show nI h ≤ 30 from nI_le (b := 30) h30 (by decide))]; rfl
    · rw [if_neg h30, if_neg (show ¬ nI h ≤ 30 from nI_ge (a := 30) (by omega) (by omega))]; rfl
  · rw [if_pos (okN hi (by omega)), bd_s, if_neg (by decide), jn_s]
    exact s1
  · by_cases hq : o = 0 ∧ c = 29
    · rw [gI_y hq, hq.1, hq.2]; exact H.2.2.2.2.2.2.2.1.1.symm
    · rw [gI_n hq, s2.1 o c (by omega)]
end V4
