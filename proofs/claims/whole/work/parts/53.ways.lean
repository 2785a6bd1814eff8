/-! out, set, from -/
def fewr : Option Nat → Option Nat → Bool
  | none, _ => false
  | some _, none => true
  | some a, some b => decide (a < b)
section V1
variable {L : List Nat} {W : Nat → Nat} {N : Nat → List cls} {x m x' m' m0 : gMem}
theorem fwN_le {nz : Nat → Nat → Nat} {dp : Nat → Nat} {tm dr t0 : Nat} : ∀ (f : Nat) (T : Nat → Nat) (g a : Nat), fwN nz dp tm dr t0 f T g = some a → a ≤ f + g
  | 0, _, _, _, h => by cases h
  | f + 1, T, g, a, h => by
    unfold fwN at h
    split at h
    · cases h; omega
    · have := fwN_le f _ _ _ h; omega
theorem x_isFewer {r q : Option Nat} (hr : ∀ a, r = some a → a ≤ 40) (hq : ∀ a, q = some a → a ≤ 40) : f_X11_isFewer (ansN r) (ansN q) = some (nI (if fewr r q then 1 else 0)) := by
  unfold f_X11_isFewer
  cases r with
  | none => rw [if_pos (show ansN none = -5 from rfl)]; rfl
  | some a =>
    have ha := hr a rfl
    have n5 : ¬ ansN (some a) = -5 := by
      show ¬ nI a = -5
      simp (disch := omega) only [lt1, jn, bd_s, bd2_s, oc_s, oc_n, li0, li1, li2, li3, li4, li5, li6, li7, li8, li9, li10, li11, li12, li13, li14, li16, li20, li21, li22, li24, li30, li31, li33, li38, li39, li40, li41, li45, li48, li50, li51, li57, li58, li59, li60, li61, li62, li64, li70, li71, li72, li99, li100, li101, li104, li107, li109, li116, li120, li121, li124, li127, li128, li144, li255, li300, li360, li372, li396, li600, li999, li1000, li9960, li9990, li1000000, nI_1, nI_add, pk_sub, pk_mul, pk_div, rem_nI, i_lt, i_le, i_eq, okI, ix, isB, nI_clamp, nI_toInt, tneg, gI_sI, gR_sI, gJ_sI, gI_sR, gR_sR, gJ_sR, gI_sJ, gR_sJ, gJ_sJ, true_and, and_true, false_and, and_false, if_true, if_false, if_pos, if_neg]; omega
    rw [if_neg n5]
    simp only [jn]
    cases q with
    | none => rw [if_pos (show ansN none = -5 from rfl)]; rfl
    | some b =>
      have hb := hq b rfl
      have n6 : ¬ ansN (some b) = -5 := by
        show ¬ nI b = -5
        simp (disch := omega) only [lt1, jn, bd_s, bd2_s, oc_s, oc_n, li0, li1, li2, li3, li4, li5, li6, li7, li8, li9, li10, li11, li12, li13, li14, li16, li20, li21, li22, li24, li30, li31, li33, li38, li39, li40, li41, li45, li48, li50, li51, li57, li58, li59, li60, li61, li62, li64, li70, li71, li72, li99, li100, li101, li104, li107, li109, li116, li120, li121, li124, li127, li128, li144, li255, li300, li360, li372, li396, li600, li999, li1000, li9960, li9990, li1000000, nI_1, nI_add, pk_sub, pk_mul, pk_div, rem_nI, i_lt, i_le, i_eq, okI, ix, isB, nI_clamp, nI_toInt, tneg, gI_sI, gR_sI, gJ_sI, gI_sR, gR_sR, gJ_sR, gI_sJ, gR_sJ, gJ_sJ, true_and, and_true, false_and, and_false, if_true, if_false, if_pos, if_neg]; omega
      rw [if_neg n6]
      by_cases h : a < b
      · rw [if_neg (show ¬ ansN (some b) ≤ ansN (some a) from nI_ge h (by omega))]
        simp only [fewr, h, decide_true, if_true]; rfl
      · rw [if_pos (show ansN (some b) ≤ ansN (some a) from nI_le (by omega) (by omega))]
        simp only [fewr, h, decide_false, Bool.false_eq_true, if_false]; rfl
theorem m_fewer {α : Type} {r q : Option Nat} (hr : ∀ a, r = some a → a ≤ 40) (hq : ∀ a, q = some a → a ≤ 40) (A B : α) : (if ansN r < 0 then A else (jn (B : α) fun j14 => if ansN q < 0 then j14 else if ansN r < ansN q then j14 else A)) = if fewr r q = true then B else A := by
  cases r with
  | none => rw [if_pos (show ansN none < 0 by decide)]; rfl
  | some a =>
    have ha := hr a rfl
    rw [if_neg (show ¬ ansN (some a) < 0 from nI_pos (by omega))]
    simp only [jn]
    cases q with
    | none => rw [if_pos (show ansN none < 0 by decide)]; rfl
    | some b =>
      have hb := hq b rfl
      rw [if_neg (show ¬ ansN (some b) < 0 from nI_pos (by omega))]
      by_cases h : a < b
      · rw [if_pos (show ansN (some a) < ansN (some b) from nI_lt h (by omega))]
        simp only [fewr, h, decide_true, if_true]
      · rw [if_neg (show ¬ ansN (some a) < ansN (some b) from nI_nlt (by omega) (by omega))]
        simp only [fewr, h, decide_false, Bool.false_eq_true, if_false]
/-- what OUT is -/
def outN (N : Nat → List cls) (W : Nat → Nat) (m : gMem) (i dr b t s e : Nat) : Option Nat := fwN (nzO N W m i) (fun t => depN (curP N m) t + e) (tmN (wkd (W i))) dr t 31 (T0 b s) 0
theorem outN_le {i dr b t s e a : Nat} (h : outN N W m i dr b t s e = some a) : a ≤ 40 := by have := fwN_le _ _ _ _ h; omega
theorem ansN_5 {r : Option Nat} (hr : ∀ a, r = some a → a ≤ 40) : (ansN r = -5) = (r = none) := by
  cases r with
  | none => exact propext ⟨fun _ => rfl, fun _ => rfl⟩
  | some a =>
    have := hr a rfl
    have n5 : ¬ ansN (some a) = -5 := by
      show ¬ nI a = -5
      simp (disch := omega) only [lt1, jn, bd_s, bd2_s, oc_s, oc_n, li0, li1, li2, li3, li4, li5, li6, li7, li8, li9, li10, li11, li12, li13, li14, li16, li20, li21, li22, li24, li30, li31, li33, li38, li39, li40, li41, li45, li48, li50, li51, li57, li58, li59, li60, li61, li62, li64, li70, li71, li72, li99, li100, li101, li104, li107, li109, li116, li120, li121, li124, li127, li128, li144, li255, li300, li360, li372, li396, li600, li999, li1000, li9960, li9990, li1000000, nI_1, nI_add, pk_sub, pk_mul, pk_div, rem_nI, i_lt, i_le, i_eq, okI, ix, isB, nI_clamp, nI_toInt, tneg, gI_sI, gR_sI, gJ_sI, gI_sR, gR_sR, gJ_sR, gI_sJ, gR_sJ, gJ_sJ, true_and, and_true, false_and, and_false, if_true, if_false, if_pos, if_neg]; omega
    exact propext ⟨fun h => absurd h n5, fun h => by cases h⟩
theorem ansN_pos {r : Option Nat} (hr : ∀ a, r = some a → a ≤ 40) : (0 ≤ ansN r) = (r ≠ none) := by
  cases r with
  | none => exact propext ⟨fun h => absurd h (by decide), fun h => absurd rfl h⟩
  | some a =>
    have := hr a rfl
    exact propext ⟨fun _ => by simp, fun _ => nI_pos' (show a < 2 ^ 31 by omega)⟩
theorem Rel.xout (H : Rel L W N x m0) {n i dr b t s e : Nat} (hn : n ≤ 4) (en : gI m0 0 0 = nI n) (hi : i < n) (hL : LT x (nzO N W m0 i) (depN (curP N m0)) (tmN (wkd (W i))) dr) (hdr : dr < 12) (hb : b < 12) (ht : t ≤ 20000) (hs : s ≤ 2) (he : e ≤ 30) : ∃ x', f_X10_fewest L x (nI b) (nI t) (nI s) (nI e) = some (ansN (outN N W m0 i dr b t s e), x') ∧ ok35 x x' := x_fewest (L := L) hL (tmN_le _) (fun o t ho => (H.mn hn en hi).le ho t) hdr (by omega) (fun o t => nzO_mod i o t) (fun t => depN_mod _ t) (fun t => by have := dep_le H.2.2.2.2.1 H.2.2.2.2.2.1 t; omega) hb hs
theorem MN.ag {i kd v T : Nat} {row cr : Nat → Nat} (M : MN x m0 N i kd v row cr T) (A : agM m0 m) : MN x m N i kd v row cr T := M.fr (fun o k q => A.1 o k (by omega))
theorem Rel.mout (H : Rel L W N x m0) (A : agM m0 m) {n i dr b t s : Nat} (hn : n ≤ 4) (en : gI m0 0 0 = nI n) (hi : i < n) (hd : gI m0 0 4 = nI dr) (hdr : dr < 12) (hb : b < 12) (ht : t ≤ 20000) (hs : s ≤ 2) : ∃ m', f_X12_outBy m (nI i) (nI b) (nI t) (nI s) = some (ansN (outN N W m0 i dr b t s 0), m') ∧ ok1517 m m' := by
  obtain ⟨m', e1, e2⟩ := m_outBy ((H.mn hn en hi).ag A) (dd := 0) (dr := dr) (b := b) (t0 := t) (s := s) ((A.1 _ _ (by omega)).trans H.2.2.2.2.2.2.2.1.1) (by omega) ((A.1 _ _ (by omega)).trans hd) hdr (by omega) hb hs
  refine ⟨m', ?_, e2⟩
  rw [e1, curP_fr (N := N) (A.1 0 12 (by omega))]
  rfl
theorem op_out (H : Rel L W N x m) (p0 : Int32) : Op L W N (f_X11_out L x p0) (f_X12_out m p0) := by
  obtain ⟨n, hn, en, hW⟩ := H.2.1
  unfold f_X11_out f_X12_out
  rw [x_find H hn en, m_isWalker hn en]
  rcases p_in p0 n (by omega) with ⟨i, hi, rfl⟩ | h | h
  rotate_left
  · exact ⟨-1, x, m, by simp (disch := omega) only [lt1, jn, bd_s, bd2_s, oc_s, oc_n, li0, li1, li2, li3, li4, li5, li6, li7, li8, li9, li10, li11, li12, li13, li14, li16, li20, li21, li22, li24, li30, li31, li33, li38, li39, li40, li41, li45, li48, li50, li51, li57, li58, li59, li60, li61, li62, li64, li70, li71, li72, li99, li100, li101, li104, li107, li109, li116, li120, li121, li124, li127, li128, li144, li255, li300, li360, li372, li396, li600, li999, li1000, li9960, li9990, li1000000, nI_1, nI_add, pk_sub, pk_mul, pk_div, rem_nI, i_lt, i_le, i_eq, okI, ix, isB, nI_clamp, nI_toInt, tneg, gI_sI, gR_sI, gJ_sI, gI_sR, gR_sR, gJ_sR, gI_sJ, gR_sJ, gJ_sJ, true_and, and_true, false_and, and_false, if_true, if_false, if_pos, if_neg], by simp (disch := omega) only [lt1, jn, bd_s, bd2_s, oc_s, oc_n, li0, li1, li2, li3, li4, li5, li6, li7, li8, li9, li10, li11, li12, li13, li14, li16, li20, li21, li22, li24, li30, li31, li33, li38, li39, li40, li41, li45, li48, li50, li51, li57, li58, li59, li60, li61, li62, li64, li70, li71, li72, li99, li100, li101, li104, li107, li109, li116, li120, li121, li124, li127, li128, li144, li255, li300, li360, li372, li396, li600, li999, li1000, li9960, li9990, li1000000, nI_1, nI_add, pk_sub, pk_mul, pk_div, rem_nI, i_lt, i_le, i_eq, okI, ix, isB, nI_clamp, nI_toInt, tneg, gI_sI, gR_sI, gJ_sI, gI_sR, gR_sR, gJ_sR, gI_sJ, gR_sJ, gJ_sJ, true_and, and_true, false_and, and_false, if_true, if_false, if_pos, if_neg], H⟩
  · exact ⟨-1, x, m, by simp (disch := omega) only [lt1, jn, bd_s, bd2_s, oc_s, oc_n, li0, li1, li2, li3, li4, li5, li6, li7, li8, li9, li10, li11, li12, li13, li14, li16, li20, li21, li22, li24, li30, li31, li33, li38, li39, li40, li41, li45, li48, li50, li51, li57, li58, li59, li60, li61, li62, li64, li70, li71, li72, li99, li100, li101, li104, li107, li109, li116, li120, li121, li124, li127, li128, li144, li255, li300, li360, li372, li396, li600, li999, li1000, li9960, li9990, li1000000, nI_1, nI_add, pk_sub, pk_mul, pk_div, rem_nI, i_lt, i_le, i_eq, okI, ix, isB, nI_clamp, nI_toInt, tneg, gI_sI, gR_sI, gJ_sI, gI_sR, gR_sR, gJ_sR, gI_sJ, gR_sJ, gJ_sJ, true_and, and_true, false_and, and_false, if_true, if_false, if_pos, if_neg], by simp (disch := omega) only [lt1, jn, bd_s, bd2_s, oc_s, oc_n, li0, li1, li2, li3, li4, li5, li6, li7, li8, li9, li10, li11, li12, li13, li14, li16, li20, li21, li22, li24, li30, li31, li33, li38, li39, li40, li41, li45, li48, li50, li51, li57, li58, li59, li60, li61, li62, li64, li70, li71, li72, li99, li100, li101, li104, li107, li109, li116, li120, li121, li124, li127, li128, li144, li255, li300, li360, li372, li396, li600, li999, li1000, li9960, li9990, li1000000, nI_1, nI_add, pk_sub, pk_mul, pk_div, rem_nI, i_lt, i_le, i_eq, okI, ix, isB, nI_clamp, nI_toInt, tneg, gI_sI, gR_sI, gJ_sI, gI_sR, gR_sR, gJ_sR, gI_sJ, gR_sJ, gJ_sJ, true_and, and_true, false_and, and_false, if_true, if_false, if_pos, if_neg], H⟩
  obtain ⟨q1, q2, q3, q4, q5, q6, q7, ⟨b, hb, eb⟩, q9⟩ := hW.1 i hi
  have hw := eq_true q1
  have z3 := q1.1
  obtain ⟨t, ht, et⟩ : rg (gI m 0 1) 9992 := H.1.2.2.2.1
  obtain ⟨s, hs, es⟩ : rg (gI m 0 2) 2 := H.1.2.2.2.2.1
  obtain ⟨d, hd, ed⟩ : rg (gI m 0 4) 11 := H.1.2.2.2.2.2.2.1
  have ex4 : gI x 10 4 = gI m 0 1 := H.1.1.2.2.2.1
  have ex5 : gI x 10 5 = gI m 0 2 := H.1.1.2.2.2.2.1
  obtain ⟨x1, e1, H1, L1, k1⟩ := x_learn H hn en hi ed
  obtain ⟨x2, r1, r2⟩ := H1.xout hn en hi (e := 0) L1 (by omega) (b := b) (t := t) (s := s) (by omega) (by omega) hs (by omega)
  obtain ⟨m2, s1, s2⟩ := H.mout agM.rfl hn en hi ed (by omega) (b := b) (t := t) (s := s) (by omega) (by omega) hs
  have w2 : gI x1 (W i) 2 = nI b := by rw [k1 _ _ (by omega) (by omega), q7, eb]
  have w4 : gI x1 10 4 = nI t := by rw [k1 _ _ (by omega) (by omega), ex4, et]
  have w5 : gI x1 10 5 = nI s := by rw [k1 _ _ (by omega) (by omega), ex5, es]
  exact ⟨ansN (outN N W m i d b t s 0), x2, m2, by simp (disch := omega) only [lt1, jn, bd_s, bd2_s, oc_s, oc_n, li0, li1, li2, li3, li4, li5, li6, li7, li8, li9, li10, li11, li12, li13, li14, li16, li20, li21, li22, li24, li30, li31, li33, li38, li39, li40, li41, li45, li48, li50, li51, li57, li58, li59, li60, li61, li62, li64, li70, li71, li72, li99, li100, li101, li104, li107, li109, li116, li120, li121, li124, li127, li128, li144, li255, li300, li360, li372, li396, li600, li999, li1000, li9960, li9990, li1000000, nI_1, nI_add, pk_sub, pk_mul, pk_div, rem_nI, i_lt, i_le, i_eq, okI, ix, isB, nI_clamp, nI_toInt, tneg, gI_sI, gR_sI, gJ_sI, gI_sR, gR_sR, gJ_sR, gI_sJ, gR_sJ, gJ_sJ, true_and, and_true, false_and, and_false, if_true, if_false, if_pos, if_neg, hw, e1, w2, w4, w5, r1], by unfold f_X12_outNow; simp (disch := omega) only [lt1, jn, bd_s, bd2_s, oc_s, oc_n, li0, li1, li2, li3, li4, li5, li6, li7, li8, li9, li10, li11, li12, li13, li14, li16, li20, li21, li22, li24, li30, li31, li33, li38, li39, li40, li41, li45, li48, li50, li51, li57, li58, li59, li60, li61, li62, li64, li70, li71, li72, li99, li100, li101, li104, li107, li109, li116, li120, li121, li124, li127, li128, li144, li255, li300, li360, li372, li396, li600, li999, li1000, li9960, li9990, li1000000, nI_1, nI_add, pk_sub, pk_mul, pk_div, rem_nI, i_lt, i_le, i_eq, okI, ix, isB, nI_clamp, nI_toInt, tneg, gI_sI, gR_sI, gJ_sI, gI_sR, gR_sR, gJ_sR, gI_sJ, gR_sJ, gJ_sJ, true_and, and_true, false_and, and_false, if_true, if_false, if_pos, if_neg, eb, et, es, s1], H1.fr r2.ag s2.ag⟩
theorem set_loop {n i b t s dr : Nat} (hn : n ≤ 4) (en : gI m0 0 0 = nI n) (hi : i < n) (eb : gI m0 4 i = nI b) (hb : b < 12) (et : gI m0 0 1 = nI t) (ht : t ≤ 9992) (es : gI m0 0 2 = nI s) (hs : s ≤ 2) (ed : gI m0 0 4 = nI dr) (hdr : dr < 12) (j1 j2 : Int32 → Int32 → gMem → Option (Int32 × gMem)) (hj : ∀ (a c : Int32) (x m : gMem), Rel L W N x m0 → agM m0 m → Op L W N (j1 a c x) (j2 a c m)) : ∀ (d k f1 f2 : Nat) (a : Int32) (q : Option Nat) (x m : gMem), (∀ a, q = some a → a ≤ 40) → Rel L W N x m0 → agM m0 m → LT x (nzO N W m0 i) (depN (curP N m0)) (tmN (wkd (W i))) dr → d + k = 21 → d < f1 → d < f2 → Op L W N (lq4 (s_X11_set_44 j1 L (W i)) f1 a (ansN q) (nI k) x) (lq4 (s_X12_set_30 j2 (nI i)) f2 a (ansN q) (nI k) m)
  | 0, k, f1, f2, a, q, x, m, hq, H, A, hL, h1, h2, h3 => by
    obtain ⟨f1, rfl⟩ : ∃ f, f1 = f + 1 := ⟨f1 - 1, by omega⟩
    obtain ⟨f2, rfl⟩ : ∃ f, f2 = f + 1 := ⟨f2 - 1, by omega⟩
    have := hj a (ansN q) x m H A
    rw [lq4_u, lq4_u]
    unfold s_X11_set_44 s_X12_set_30
    rw [if_pos (show (20 : Int32) < nI k from nI_lt (a := 20) (by omega) (by omega)), if_pos (show (21 : Int32) ≤ nI k from nI_le (a := 21) (by omega) (by omega))]
    exact this
  | d + 1, k, f1, f2, a, q, x, m, hq, H, A, hL, h1, h2, h3 => by
    obtain ⟨f1, rfl⟩ : ∃ f, f1 = f + 1 := ⟨f1 - 1, by omega⟩
    obtain ⟨f2, rfl⟩ : ∃ f, f2 = f + 1 := ⟨f2 - 1, by omega⟩
    obtain ⟨q1, q2, q3, q4, q5, q6, q7, q8, q9⟩ := (H.2.1.w en hn).1 i hi
    have ex4 : gI x 10 4 = gI m0 0 1 := H.1.1.2.2.2.1
    have ex5 : gI x 10 5 = gI m0 0 2 := H.1.1.2.2.2.2.1
    obtain ⟨x2, r1, r2⟩ := H.xout hn en hi (e := 0) hL hdr (b := b) (t := t + k) (s := s - k) hb (by omega) (by omega) (by omega)
    obtain ⟨m2, s1, s2⟩ := H.mout A hn en hi ed hdr (b := b) (t := t + k) (s := s - k) hb (by omega) (by omega)
    have hr : ∀ a, outN N W m0 i dr b (t + k) (s - k) 0 = some a → a ≤ 40 := fun a ha => outN_le ha
    have ih := fun (a' : Int32) (q' : Option Nat) (hq' : ∀ a, q' = some a → a ≤ 40) => set_loop hn en hi eb hb et ht es hs ed hdr j1 j2 hj d (k + 1) f1 f2 a' q' x2 m2 hq' (H.fr r2.ag agM.rfl) (A.trans s2.ag) (hL.f35 r2) (by omega) (by omega) (by omega)
    have e0 := sub0 (s := s) (k := k) (by omega) (by omega)
    have eb' := (A.1 4 i (by omega)).trans eb
    have et' := (A.1 0 1 (by omega)).trans et
    have es' := (A.1 0 2 (by omega)).trans es
    rw [lq4_u, lq4_u]
    generalize lq4 (s_X11_set_44 j1 L (W i)) f1 = F1 at ih ⊢
    generalize lq4 (s_X12_set_30 j2 (nI i)) f2 = F2 at ih ⊢
    unfold s_X11_set_44 s_X12_set_30
    have hm : ∀ K : Int32 → Option (Int32 × gMem), (jn K fun j9 => if nI k ≤ nI s then j9 (nI s - nI k) else j9 0) = K (nI (s - k)) := by
      intro K
      simp only [jn]
      by_cases hk : k ≤ s
      · rw [if_pos (nI_le hk (by omega)), pk_sub hk]
      · rw [if_neg (nI_ge (by omega) (by omega)), show s - k = 0 by omega]; rfl
    have r1 : f_X10_fewest L x (nI b) (nI (t + k)) (nI (s - k)) 0 = some (ansN (outN N W m0 i dr b (t + k) (s - k) 0), x2) := r1
    rw [if_neg (show ¬ (20 : Int32) < nI k from nI_nlt (a := 20) (by omega) (by decide)), if_neg (show ¬ (21 : Int32) ≤ nI k from nI_ge (b := 21) (by omega) (by decide)), q7, eb, ex4, et, ex5, es, nI_add, e0, r1, bd2_s, x_isFewer hr hq, bd_s]
    rw [if_pos (okN (show i < 4 by omega) (by decide)), es', hm, ixN (by omega), eb', et', nI_add, s1, bd2_s]
    rw [jn_s (fun (x15 : Int32) (x16 : Int32) => lt1 (nI k + (1 : Int32)) fun (x17 : Int32) => (F2 x15 x16 x17 m2)), m_fewer hr hq]
    simp only [jn, lt1]
    rw [nI_1]
    by_cases hf : fewr (outN N W m0 i dr b (t + k) (s - k) 0) q = true
    · rw [hf]
      simp only [if_true]
      rw [if_neg (show ¬ nI 1 = 0 by decide)]
      exact ih (nI k) _ hr
    · rw [if_neg hf, if_neg hf, if_pos (show nI 0 = 0 from rfl)]
      exact ih a q hq
theorem op_set (H : Rel L W N x m) (p0 p1 : Int32) : Op L W N (f_X11_set L x p0 p1) (f_X12_set m p0 p1) := by
  obtain ⟨n, hn, en, hW⟩ := H.2.1
  unfold f_X11_set f_X12_set
  rw [x_find H hn en, m_isWalker hn en, m_in0 p1 1 2 rfl]
  rcases p_in p0 n (by omega) with ⟨i, hi, rfl⟩ | h | h
  rotate_left
  · exact ⟨-1, x, m, by simp (disch := omega) only [lt1, jn, bd_s, bd2_s, oc_s, oc_n, li0, li1, li2, li3, li4, li5, li6, li7, li8, li9, li10, li11, li12, li13, li14, li16, li20, li21, li22, li24, li30, li31, li33, li38, li39, li40, li41, li45, li48, li50, li51, li57, li58, li59, li60, li61, li62, li64, li70, li71, li72, li99, li100, li101, li104, li107, li109, li116, li120, li121, li124, li127, li128, li144, li255, li300, li360, li372, li396, li600, li999, li1000, li9960, li9990, li1000000, nI_1, nI_add, pk_sub, pk_mul, pk_div, rem_nI, i_lt, i_le, i_eq, okI, ix, isB, nI_clamp, nI_toInt, tneg, gI_sI, gR_sI, gJ_sI, gI_sR, gR_sR, gJ_sR, gI_sJ, gR_sJ, gJ_sJ, true_and, and_true, false_and, and_false, if_true, if_false, if_pos, if_neg], by simp (disch := omega) only [lt1, jn, bd_s, bd2_s, oc_s, oc_n, li0, li1, li2, li3, li4, li5, li6, li7, li8, li9, li10, li11, li12, li13, li14, li16, li20, li21, li22, li24, li30, li31, li33, li38, li39, li40, li41, li45, li48, li50, li51, li57, li58, li59, li60, li61, li62, li64, li70, li71, li72, li99, li100, li101, li104, li107, li109, li116, li120, li121, li124, li127, li128, li144, li255, li300, li360, li372, li396, li600, li999, li1000, li9960, li9990, li1000000, nI_1, nI_add, pk_sub, pk_mul, pk_div, rem_nI, i_lt, i_le, i_eq, okI, ix, isB, nI_clamp, nI_toInt, tneg, gI_sI, gR_sI, gJ_sI, gI_sR, gR_sR, gJ_sR, gI_sJ, gR_sJ, gJ_sJ, true_and, and_true, false_and, and_false, if_true, if_false, if_pos, if_neg], H⟩
  · exact ⟨-1, x, m, by simp (disch := omega) only [lt1, jn, bd_s, bd2_s, oc_s, oc_n, li0, li1, li2, li3, li4, li5, li6, li7, li8, li9, li10, li11, li12, li13, li14, li16, li20, li21, li22, li24, li30, li31, li33, li38, li39, li40, li41, li45, li48, li50, li51, li57, li58, li59, li60, li61, li62, li64, li70, li71, li72, li99, li100, li101, li104, li107, li109, li116, li120, li121, li124, li127, li128, li144, li255, li300, li360, li372, li396, li600, li999, li1000, li9960, li9990, li1000000, nI_1, nI_add, pk_sub, pk_mul, pk_div, rem_nI, i_lt, i_le, i_eq, okI, ix, isB, nI_clamp, nI_toInt, tneg, gI_sI, gR_sI, gJ_sI, gI_sR, gR_sR, gJ_sR, gI_sJ, gR_sJ, gJ_sJ, true_and, and_true, false_and, and_false, if_true, if_false, if_pos, if_neg], by simp (disch := omega) only [lt1, jn, bd_s, bd2_s, oc_s, oc_n, li0, li1, li2, li3, li4, li5, li6, li7, li8, li9, li10, li11, li12, li13, li14, li16, li20, li21, li22, li24, li30, li31, li33, li38, li39, li40, li41, li45, li48, li50, li51, li57, li58, li59, li60, li61, li62, li64, li70, li71, li72, li99, li100, li101, li104, li107, li109, li116, li120, li121, li124, li127, li128, li144, li255, li300, li360, li372, li396, li600, li999, li1000, li9960, li9990, li1000000, nI_1, nI_add, pk_sub, pk_mul, pk_div, rem_nI, i_lt, i_le, i_eq, okI, ix, isB, nI_clamp, nI_toInt, tneg, gI_sI, gR_sI, gJ_sI, gI_sR, gR_sR, gJ_sR, gI_sJ, gR_sJ, gJ_sJ, true_and, and_true, false_and, and_false, if_true, if_false, if_pos, if_neg], H⟩
  obtain ⟨q1, q2, q3, q4, q5, q6, q7, ⟨b, hb, eb⟩, q9⟩ := hW.1 i hi
  have hw := eq_true q1
  rcases p_in p1 2 (by decide) with ⟨p, hp, rfl⟩ | h | h
  rotate_left
  · exact ⟨-1, x, m, by simp (disch := omega) only [lt1, jn, bd_s, bd2_s, oc_s, oc_n, li0, li1, li2, li3, li4, li5, li6, li7, li8, li9, li10, li11, li12, li13, li14, li16, li20, li21, li22, li24, li30, li31, li33, li38, li39, li40, li41, li45, li48, li50, li51, li57, li58, li59, li60, li61, li62, li64, li70, li71, li72, li99, li100, li101, li104, li107, li109, li116, li120, li121, li124, li127, li128, li144, li255, li300, li360, li372, li396, li600, li999, li1000, li9960, li9990, li1000000, nI_1, nI_add, pk_sub, pk_mul, pk_div, rem_nI, i_lt, i_le, i_eq, okI, ix, isB, nI_clamp, nI_toInt, tneg, gI_sI, gR_sI, gJ_sI, gI_sR, gR_sR, gJ_sR, gI_sJ, gR_sJ, gJ_sJ, true_and, and_true, false_and, and_false, if_true, if_false, if_pos, if_neg, hw], by simp (disch := omega) only [lt1, jn, bd_s, bd2_s, oc_s, oc_n, li0, li1, li2, li3, li4, li5, li6, li7, li8, li9, li10, li11, li12, li13, li14, li16, li20, li21, li22, li24, li30, li31, li33, li38, li39, li40, li41, li45, li48, li50, li51, li57, li58, li59, li60, li61, li62, li64, li70, li71, li72, li99, li100, li101, li104, li107, li109, li116, li120, li121, li124, li127, li128, li144, li255, li300, li360, li372, li396, li600, li999, li1000, li9960, li9990, li1000000, nI_1, nI_add, pk_sub, pk_mul, pk_div, rem_nI, i_lt, i_le, i_eq, okI, ix, isB, nI_clamp, nI_toInt, tneg, gI_sI, gR_sI, gJ_sI, gI_sR, gR_sR, gJ_sR, gI_sJ, gR_sJ, gJ_sJ, true_and, and_true, false_and, and_false, if_true, if_false, if_pos, if_neg], H⟩
  · exact ⟨-1, x, m, by simp (disch := omega) only [lt1, jn, bd_s, bd2_s, oc_s, oc_n, li0, li1, li2, li3, li4, li5, li6, li7, li8, li9, li10, li11, li12, li13, li14, li16, li20, li21, li22, li24, li30, li31, li33, li38, li39, li40, li41, li45, li48, li50, li51, li57, li58, li59, li60, li61, li62, li64, li70, li71, li72, li99, li100, li101, li104, li107, li109, li116, li120, li121, li124, li127, li128, li144, li255, li300, li360, li372, li396, li600, li999, li1000, li9960, li9990, li1000000, nI_1, nI_add, pk_sub, pk_mul, pk_div, rem_nI, i_lt, i_le, i_eq, okI, ix, isB, nI_clamp, nI_toInt, tneg, gI_sI, gR_sI, gJ_sI, gI_sR, gR_sR, gJ_sR, gI_sJ, gR_sJ, gJ_sJ, true_and, and_true, false_and, and_false, if_true, if_false, if_pos, if_neg, hw], by simp (disch := omega) only [lt1, jn, bd_s, bd2_s, oc_s, oc_n, li0, li1, li2, li3, li4, li5, li6, li7, li8, li9, li10, li11, li12, li13, li14, li16, li20, li21, li22, li24, li30, li31, li33, li38, li39, li40, li41, li45, li48, li50, li51, li57, li58, li59, li60, li61, li62, li64, li70, li71, li72, li99, li100, li101, li104, li107, li109, li116, li120, li121, li124, li127, li128, li144, li255, li300, li360, li372, li396, li600, li999, li1000, li9960, li9990, li1000000, nI_1, nI_add, pk_sub, pk_mul, pk_div, rem_nI, i_lt, i_le, i_eq, okI, ix, isB, nI_clamp, nI_toInt, tneg, gI_sI, gR_sI, gJ_sI, gI_sR, gR_sR, gJ_sR, gI_sJ, gR_sJ, gJ_sJ, true_and, and_true, false_and, and_false, if_true, if_false, if_pos, if_neg], H⟩
  obtain ⟨t, ht, et⟩ : rg (gI m 0 1) 9992 := H.1.2.2.2.1
  obtain ⟨s, hs, es⟩ : rg (gI m 0 2) 2 := H.1.2.2.2.2.1
  obtain ⟨d, hd, ed⟩ : rg (gI m 0 4) 11 := H.1.2.2.2.2.2.2.1
  obtain ⟨x1, e1, H1, L1, k1⟩ := x_learn H hn en hi ed
  have main := set_loop (L := L) (W := W) (N := N) (m0 := m) hn en hi eb (by omega) et ht es hs ed (by omega) (fun (x17 : Int32) (x18 : Int32) (m19 : gMem) => if nI p = 0 then (some (x17, m19)) else some (x18, m19)) (fun (x18 : Int32) (x19 : Int32) (m20 : gMem) => if nI p = 0 then (some (x18, m20)) else some (x19, m20)) (fun a c x m' H A => by
    by_cases hp0 : nI p = 0
    · exact ⟨a, x, m', by rw [if_pos hp0], by rw [if_pos hp0], H.fr agX.rfl A⟩
    · exact ⟨c, x, m', by rw [if_neg hp0], by rw [if_neg hp0], H.fr agX.rfl A⟩) 21 0 1000 1000 (-5) none x1 m (fun a ha => by cases ha) H1 agM.rfl L1 rfl (by decide) (by decide)
  obtain ⟨a, x', m', r1, r2, r3⟩ := main
  refine ⟨a, x', m', ?_, ?_, r3⟩
  · rw [← r1]
    generalize hF : (fun (x17 : Int32) (x18 : Int32) (m19 : gMem) => if nI p = 0 then (some (x17, m19)) else some (x18, m19)) = F
    have c1 : ¬ nI p < 0 := nI_pos (by omega)
    have c2 : nI p ≤ 1 := nI_le (b := 1) (by omega) (by decide)
    rw [if_pos (okN hi (by omega)), bd_s, oc_s, ixN (by omega), if_pos q1, if_neg c1, if_pos c2, e1, bd_s, jn_s]
    rfl
  · rw [← r2]
    generalize hF : (fun (x18 : Int32) (x19 : Int32) (m20 : gMem) => if nI p = 0 then (some (x18, m20)) else some (x19, m20)) = F
    rw [if_pos (okN hi (by omega)), bd_s, if_neg (by decide), if_pos (okN hp (by decide)), bd_s, if_neg (by decide), jn_s]
    rfl
theorem from_loop {n i t s dr : Nat} (hn : n ≤ 4) (en : gI m0 0 0 = nI n) (hi : i < n) (et : gI m0 0 1 = nI t) (ht : t ≤ 9992) (es : gI m0 0 2 = nI s) (hs : s ≤ 2) (ed : gI m0 0 4 = nI dr) (hdr : dr < 12) : ∀ (d k f1 f2 : Nat) (v : Int32) (x m : gMem), Rel L W N x m0 → agM m0 m → LT x (nzO N W m0 i) (depN (curP N m0)) (tmN (wkd (W i))) dr → d + k = 12 → d < f1 → d < f2 → Op L W N (lq3 (s_X11_from_29 L) f1 v (nI k) x) (lq3 (s_X12_from_14 (nI i)) f2 v (nI k) m)
  | 0, k, f1, f2, v, x, m, H, A, hL, h1, h2, h3 => by
    obtain ⟨f1, rfl⟩ : ∃ f, f1 = f + 1 := ⟨f1 - 1, by omega⟩
    obtain ⟨f2, rfl⟩ : ∃ f, f2 = f + 1 := ⟨f2 - 1, by omega⟩
    rw [lq3_u, lq3_u]
    unfold s_X11_from_29 s_X12_from_14
    have c : (12 : Int32) ≤ nI k := nI_le (a := 12) (by omega) (by omega)
    rw [if_pos c, if_pos c]
    exact ⟨v, x, m, rfl, rfl, H.fr agX.rfl A⟩
  | d + 1, k, f1, f2, v, x, m, H, A, hL, h1, h2, h3 => by
    obtain ⟨f1, rfl⟩ : ∃ f, f1 = f + 1 := ⟨f1 - 1, by omega⟩
    obtain ⟨f2, rfl⟩ : ∃ f, f2 = f + 1 := ⟨f2 - 1, by omega⟩
    have ex4 : gI x 10 4 = gI m0 0 1 := H.1.1.2.2.2.1
    have ex5 : gI x 10 5 = gI m0 0 2 := H.1.1.2.2.2.2.1
    obtain ⟨x2, r1, r2⟩ := H.xout hn en hi (e := 0) hL hdr (b := k) (t := t) (s := s) (by omega) (by omega) hs (by omega)
    obtain ⟨m2, s1, s2⟩ := H.mout A hn en hi ed hdr (b := k) (t := t) (s := s) (by omega) (by omega) hs
    have hr : ∀ a, outN N W m0 i dr k t s 0 = some a → a ≤ 40 := fun a ha => outN_le ha
    have ih := fun (v' : Int32) => from_loop hn en hi et ht es hs ed hdr d (k + 1) f1 f2 v' x2 m2 (H.fr r2.ag agM.rfl) (A.trans s2.ag) (hL.f35 r2) (by omega) (by omega) (by omega)
    have et' := (A.1 0 1 (by omega)).trans et
    have es' := (A.1 0 2 (by omega)).trans es
    have r1 : f_X10_fewest L x (nI k) (nI t) (nI s) 0 = some (ansN (outN N W m0 i dr k t s 0), x2) := r1
    have ho : v ||| 0 = v := by
      apply Int32.toBitVec_inj.1
      show v.toBitVec ||| 0#32 = v.toBitVec
      simp
    rw [lq3_u, lq3_u]
    generalize lq3 (s_X11_from_29 L) f1 = F1 at ih ⊢
    generalize lq3 (s_X12_from_14 (nI i)) f2 = F2 at ih ⊢
    unfold s_X11_from_29 s_X12_from_14
    have c : ¬ (12 : Int32) ≤ nI k := nI_ge (b := 12) (by omega) (by decide)
    rw [if_neg c, if_neg c, ex4, ex5, et, es, r1, et', es', s1]
    simp only [bd2_s, jn, lt1, ansN_5 hr, ansN_pos hr, nI_1, ho]
    by_cases hz : outN N W m0 i dr k t s 0 = none
    · rw [if_pos hz, if_neg (fun q => q hz)]
      exact ih v
    · rw [if_neg hz, if_pos hz]
      exact ih _
theorem op_from (H : Rel L W N x m) (p0 : Int32) : Op L W N (f_X11_from L x p0) (f_X12_from m p0) := by
  obtain ⟨n, hn, en, hW⟩ := H.2.1
  unfold f_X11_from f_X12_from
  rw [x_find H hn en, m_isWalker hn en]
  rcases p_in p0 n (by omega) with ⟨i, hi, rfl⟩ | h | h
  rotate_left
  · exact ⟨-1, x, m, by simp (disch := omega) only [lt1, jn, bd_s, bd2_s, oc_s, oc_n, li0, li1, li2, li3, li4, li5, li6, li7, li8, li9, li10, li11, li12, li13, li14, li16, li20, li21, li22, li24, li30, li31, li33, li38, li39, li40, li41, li45, li48, li50, li51, li57, li58, li59, li60, li61, li62, li64, li70, li71, li72, li99, li100, li101, li104, li107, li109, li116, li120, li121, li124, li127, li128, li144, li255, li300, li360, li372, li396, li600, li999, li1000, li9960, li9990, li1000000, nI_1, nI_add, pk_sub, pk_mul, pk_div, rem_nI, i_lt, i_le, i_eq, okI, ix, isB, nI_clamp, nI_toInt, tneg, gI_sI, gR_sI, gJ_sI, gI_sR, gR_sR, gJ_sR, gI_sJ, gR_sJ, gJ_sJ, true_and, and_true, false_and, and_false, if_true, if_false, if_pos, if_neg], by simp (disch := omega) only [lt1, jn, bd_s, bd2_s, oc_s, oc_n, li0, li1, li2, li3, li4, li5, li6, li7, li8, li9, li10, li11, li12, li13, li14, li16, li20, li21, li22, li24, li30, li31, li33, li38, li39, li40, li41, li45, li48, li50, li51, li57, li58, li59, li60, li61, li62, li64, li70, li71, li72, li99, li100, li101, li104, li107, li109, li116, li120, li121, li124, li127, li128, li144, li255, li300, li360, li372, li396, li600, li999, li1000, li9960, li9990, li1000000, nI_1, nI_add, pk_sub, pk_mul, pk_div, rem_nI, i_lt, i_le, i_eq, okI, ix, isB, nI_clamp, nI_toInt, tneg, gI_sI, gR_sI, gJ_sI, gI_sR, gR_sR, gJ_sR, gI_sJ, gR_sJ, gJ_sJ, true_and, and_true, false_and, and_false, if_true, if_false, if_pos, if_neg], H⟩
  · exact ⟨-1, x, m, by simp (disch := omega) only [lt1, jn, bd_s, bd2_s, oc_s, oc_n, li0, li1, li2, li3, li4, li5, li6, li7, li8, li9, li10, li11, li12, li13, li14, li16, li20, li21, li22, li24, li30, li31, li33, li38, li39, li40, li41, li45, li48, li50, li51, li57, li58, li59, li60, li61, li62, li64, li70, li71, li72, li99, li100, li101, li104, li107, li109, li116, li120, li121, li124, li127, li128, li144, li255, li300, li360, li372, li396, li600, li999, li1000, li9960, li9990, li1000000, nI_1, nI_add, pk_sub, pk_mul, pk_div, rem_nI, i_lt, i_le, i_eq, okI, ix, isB, nI_clamp, nI_toInt, tneg, gI_sI, gR_sI, gJ_sI, gI_sR, gR_sR, gJ_sR, gI_sJ, gR_sJ, gJ_sJ, true_and, and_true, false_and, and_false, if_true, if_false, if_pos, if_neg], by simp (disch := omega) only [lt1, jn, bd_s, bd2_s, oc_s, oc_n, li0, li1, li2, li3, li4, li5, li6, li7, li8, li9, li10, li11, li12, li13, li14, li16, li20, li21, li22, li24, li30, li31, li33, li38, li39, li40, li41, li45, li48, li50, li51, li57, li58, li59, li60, li61, li62, li64, li70, li71, li72, li99, li100, li101, li104, li107, li109, li116, li120, li121, li124, li127, li128, li144, li255, li300, li360, li372, li396, li600, li999, li1000, li9960, li9990, li1000000, nI_1, nI_add, pk_sub, pk_mul, pk_div, rem_nI, i_lt, i_le, i_eq, okI, ix, isB, nI_clamp, nI_toInt, tneg, gI_sI, gR_sI, gJ_sI, gI_sR, gR_sR, gJ_sR, gI_sJ, gR_sJ, gJ_sJ, true_and, and_true, false_and, and_false, if_true, if_false, if_pos, if_neg], H⟩
  obtain ⟨q1, q2, q3, q4, q5, q6, q7, q8, q9⟩ := hW.1 i hi
  obtain ⟨t, ht, et⟩ : rg (gI m 0 1) 9992 := H.1.2.2.2.1
  obtain ⟨s, hs, es⟩ : rg (gI m 0 2) 2 := H.1.2.2.2.2.1
  obtain ⟨d, hd, ed⟩ : rg (gI m 0 4) 11 := H.1.2.2.2.2.2.2.1
  obtain ⟨x1, e1, H1, L1, k1⟩ := x_learn H hn en hi ed
  obtain ⟨a, x', m', r1, r2, r3⟩ := from_loop (L := L) (W := W) (N := N) (m0 := m) hn en hi et ht es hs ed (by omega) 12 0 1000 1000 0 x1 m H1 agM.rfl L1 rfl (by decide) (by decide)
  refine ⟨a, x', m', ?_, ?_, r3⟩
  · rw [← r1, if_pos (okN hi (by omega)), bd_s, oc_s, ixN (by omega), if_pos q1, e1, bd_s]
    rfl
  · rw [← r2, if_pos (okN hi (by omega)), bd_s, if_neg (by decide)]
    rfl
end V1
