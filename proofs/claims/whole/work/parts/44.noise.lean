/-! DEPTH, LOUD, NOISE -/
theorem md (a b : Nat) : a - a / b * b = a % b := by
  have := Nat.div_add_mod a b
  rw [Nat.mul_comm]; omega
/-- the facts -/
def fxD (t : Nat) : Nat → Nat
  | 0 => t % 12
  | _ => 0
def fxL (t b cr kd ty : Nat) : Nat → Nat
  | 0 => t % 12
  | 1 => b % 6
  | 2 => b / 6
  | 3 => cr
  | 4 => kd
  | _ => ty
def depN (P : List cls) (t : Nat) : Nat := if anyD P then sumN 0 (fxD t) P else 8
def ldN (P : List cls) (cr ty b kd t : Nat) : Nat := cr + 9 * ty + sumN 1 (fxL t b cr kd ty) P - sumN 2 (fxL t b cr kd ty) P
def nzN (kd v : Nat) (row : Nat → Nat) (l t : Nat) : Nat := match kd with
  | 0 => l
  | 1 => l + v
  | 2 => l / 2
  | 3 => l - 3
  | 4 => l + v + t % 3
  | 5 => if v < l then l / 2 else 0
  | _ => l - 3 + row (t % 4)
/-- what holds now -/
def curP (N : Nat → List cls) (m : gMem) : List cls := if gI m 0 12 = -1 then [] else N (ix (gI m 0 12))
theorem fxD_mod (t : Nat) : fxD (t % 12) = fxD t := by
  funext k
  match k with
  | 0 => exact Nat.mod_mod _ _
  | k + 1 => rfl
theorem fxL_mod (t b cr kd ty : Nat) : fxL (t % 12) b cr kd ty = fxL t b cr kd ty := by
  funext k
  match k with
  | 0 => exact Nat.mod_mod _ _
  | 1 => rfl
  | 2 => rfl
  | 3 => rfl
  | 4 => rfl
  | k + 5 => rfl
theorem depN_mod (P : List cls) (t : Nat) : depN P (t % 12) = depN P t := by rw [depN, fxD_mod, depN]
theorem ldN_mod (P : List cls) (cr ty b kd t : Nat) : ldN P cr ty b kd (t % 12) = ldN P cr ty b kd t := by rw [ldN, fxL_mod, ldN]
theorem nzN_mod (kd v : Nat) (row : Nat → Nat) (l t : Nat) : nzN kd v row l (t % 12) = nzN kd v row l t := by
  unfold nzN
  rw [show t % 12 % 3 = t % 3 by omega, show t % 12 % 4 = t % 4 by omega]
def okX17 (x x' : gMem) : Prop := (∀ o k, o ≠ 17 → gI x' o k = gI x o k) ∧ (∀ o k, gJ x' o k = gJ x o k) ∧ ∀ o k, gR x' o k = gR x o k
def okM15 (m m' : gMem) : Prop := (∀ o k, o ≠ 15 → gI m' o k = gI m o k) ∧ (∀ o k, gJ m' o k = gJ m o k) ∧ ∀ o k, gR m' o k = gR m o k
theorem okX17.rfl {x : gMem} : okX17 x x := ⟨fun _ _ _ => Eq.refl _, fun _ _ => Eq.refl _, fun _ _ => Eq.refl _⟩
theorem okM15.rfl {x : gMem} : okM15 x x := ⟨fun _ _ _ => Eq.refl _, fun _ _ => Eq.refl _, fun _ _ => Eq.refl _⟩
theorem okX17.trans {x y z : gMem} (h1 : okX17 x y) (h2 : okX17 y z) : okX17 x z := ⟨fun o k h => (h2.1 o k h).trans (h1.1 o k h), fun o k => (h2.2.1 o k).trans (h1.2.1 o k), fun o k => (h2.2.2 o k).trans (h1.2.2 o k)⟩
theorem okM15.trans {x y z : gMem} (h1 : okM15 x y) (h2 : okM15 y z) : okM15 x z := ⟨fun o k h => (h2.1 o k h).trans (h1.1 o k h), fun o k => (h2.2.1 o k).trans (h1.2.1 o k), fun o k => (h2.2.2 o k).trans (h1.2.2 o k)⟩
theorem okX17.ag {x x' : gMem} (h : okX17 x x') : agX x x' := ⟨fun o k q => h.1 o k (by omega), fun o k _ => h.2.1 o k, h.2.2⟩
theorem okM15.ag {x x' : gMem} (h : okM15 x x') : agM x x' := ⟨fun o k q => h.1 o k (by omega), fun o k _ => h.2.1 o k, h.2.2⟩
section N1
variable {L : List Nat} {x m x' m' : gMem} {N : Nat → List cls}
theorem nOK.f17 {g : Nat} (hg : g < 6) (h : okX17 x x') (P : List cls) (i st : Nat) (H : nOK x m g i st P) : nOK x' m g i st P := nOK.fr hg (fun o k p q _ => h.1 o k (by omega)) (fun _ _ _ _ => rfl) P i st H
theorem ntOK.f17 {g : Nat} {P : List cls} (hg : g < 6) (h : okX17 x x') (H : ntOK x m g P) : ntOK x' m g P := ⟨(h.1 _ _ (by omega)).trans H.1, H.2.1, H.2.2.1, H.2.2.2.1, nOK.f17 hg h P 0 0 H.2.2.2.2⟩
theorem x_setFacts {t b cr kd ty : Nat} (ht : t < 2 ^ 20) (hb : b < 12) : ∃ x', f_X2_setFacts L x (nI t) (nI b) (nI cr) (nI kd) (nI ty) = some x' ∧ okX17 x x' ∧ ∀ k, k < 6 → gI x' 17 k = nI (fxL t b cr kd ty k) := by
  refine ⟨gsI (gsI (gsI (gsI (gsI (gsI x 17 0 (nI (t % 12))) 17 1 (nI (b % 6))) 17 2 (nI (b / 6))) 17 3 (nI cr)) 17 4 (nI kd)) 17 5 (nI ty), ?_, ⟨fun o k h => ?_, fun _ _ => rfl, fun _ _ => rfl⟩, fun k hk => ?_⟩
  · unfold f_X2_setFacts
    simp (disch := omega) only [lt1, jn, bd_s, bd2_s, oc_s, oc_n, li0, li1, li2, li3, li4, li5, li6, li7, li8, li9, li10, li11, li12, li13, li14, li16, li20, li21, li22, li24, li30, li31, li33, li38, li39, li40, li41, li45, li48, li50, li51, li57, li58, li59, li60, li61, li62, li64, li70, li71, li72, li99, li100, li101, li104, li107, li109, li116, li120, li121, li124, li127, li128, li144, li255, li300, li360, li372, li396, li600, li999, li1000, li9960, li9990, li1000000, nI_1, nI_add, pk_sub, pk_mul, pk_div, rem_nI, i_lt, i_le, i_eq, okI, ix, isB, nI_clamp, nI_toInt, tneg, gI_sI, gR_sI, gJ_sI, gI_sR, gR_sR, gJ_sR, gI_sJ, gR_sJ, gJ_sJ, true_and, and_true, false_and, and_false, if_true, if_false, if_pos, if_neg, md]
  · simp (disch := omega) only [gI_n, gI_y, gJ_n, gJ_y, gR_n, gR_y, gI_cn, gI_cy, gJ_sI, gR_sI, gI_sJ, gR_sJ, gI_sR, gJ_sR, gJ_cp, gR_cp, true_and, and_true, if_true, if_false, if_pos, if_neg]
  · rcases (show k = 0 ∨ k = 1 ∨ k = 2 ∨ k = 3 ∨ k = 4 ∨ k = 5 by omega) with rfl | rfl | rfl | rfl | rfl | rfl <;> simp (disch := omega) only [gI_n, gI_y, gJ_n, gJ_y, gR_n, gR_y, gI_cn, gI_cy, gJ_sI, gR_sI, gI_sJ, gR_sJ, gI_sR, gJ_sR, gJ_cp, gR_cp, true_and, and_true, if_true, if_false, if_pos, if_neg] <;> rfl
theorem fxL_b {t b cr kd ty : Nat} (hb : b < 12) (hc : cr < 2 ^ 20) (hk : kd < 2 ^ 20) (hy : ty < 2 ^ 20) : ∀ k, k < 6 → fxL t b cr kd ty k < 2 ^ 31 := by
  intro k hk6
  rcases (show k = 0 ∨ k = 1 ∨ k = 2 ∨ k = 3 ∨ k = 4 ∨ k = 5 by omega) with rfl | rfl | rfl | rfl | rfl | rfl <;> simp only [fxL] <;> omega
theorem fxL_D (t : Nat) : fxL t 0 0 0 0 = fxD t := by
  funext k
  match k with
  | 0 => rfl
  | 1 => rfl
  | 2 => rfl
  | 3 => rfl
  | 4 => rfl
  | k + 5 => rfl
/-- the night that holds -/
theorem cur_of (hN : NT x m N) (hC : CU x m 12 10) : (gI m 0 12 = -1 ∧ gR x 10 15 = none ∧ curP N m = []) ∨ ∃ g, g < 6 ∧ gI m 0 12 = nI g ∧ gR x 10 15 = some (60 + 5 * g) ∧ curP N m = N g ∧ ntOK x m g (N g) := by
  rcases hC with ⟨h1, h2⟩ | ⟨g, n, h1, h2, h3, h4, h5⟩
  · exact Or.inl ⟨h1, h2, by rw [curP, if_pos h1]⟩
  · obtain ⟨-, -, n', a1, a2, a3⟩ := hN
    have e : n = n' := nI_inj (by omega) (by omega) (h3.symm.trans a2)
    subst e
    have hne : ¬ nI g = -1 := by simp (disch := omega) only [lt1, jn, bd_s, bd2_s, oc_s, oc_n, li0, li1, li2, li3, li4, li5, li6, li7, li8, li9, li10, li11, li12, li13, li14, li16, li20, li21, li22, li24, li30, li31, li33, li38, li39, li40, li41, li45, li48, li50, li51, li57, li58, li59, li60, li61, li62, li64, li70, li71, li72, li99, li100, li101, li104, li107, li109, li116, li120, li121, li124, li127, li128, li144, li255, li300, li360, li372, li396, li600, li999, li1000, li9960, li9990, li1000000, nI_1, nI_add, pk_sub, pk_mul, pk_div, rem_nI, i_lt, i_le, i_eq, okI, ix, isB, nI_clamp, nI_toInt, tneg, gI_sI, gR_sI, gJ_sI, gI_sR, gR_sR, gJ_sR, gI_sJ, gR_sJ, gJ_sJ, true_and, and_true, false_and, and_false, if_true, if_false, if_pos, if_neg]; omega
    exact Or.inr ⟨g, by omega, h4, h5, by rw [curP, h4, if_neg hne, ixN (by omega)], a3 g h1⟩
theorem isN60 {g : Nat} (h : g < 6) : isN (60 + 5 * g) := by
  rcases (show g = 0 ∨ g = 1 ∨ g = 2 ∨ g = 3 ∨ g = 4 ∨ g = 5 by omega) with rfl | rfl | rfl | rfl | rfl | rfl <;> decide
theorem x_depth (hN : NT x m N) (hC : CU x m 12 10) {t : Nat} (ht : t < 2 ^ 20) : ∃ x', f_X2_depth L x (nI t) = some (nI (depN (curP N m) t), x') ∧ okX17 x x' := by
  unfold f_X2_depth
  rcases cur_of hN hC with ⟨h1, h2, h3⟩ | ⟨g, h1, h2, h3, h4, h5⟩
  · refine ⟨x, ?_, okX17.rfl⟩
    rw [h2, h3, oc_n]; rfl
  · rw [h3, h4, oc_s, if_pos (isN60 h1), x_hasDeep h5]
    simp only [bd_s]
    by_cases hd : anyD (N g) = true
    · obtain ⟨x', e1, e2, e3⟩ := x_setFacts (L := L) (x := x) (t := t) (b := 0) (cr := 0) (kd := 0) (ty := 0) ht (by decide)
      refine ⟨x', ?_, e2⟩
      rw [hd, if_pos rfl, if_neg (by decide), li0, e1, bd_s, e2.2.2, h3, oc_s, if_pos (isN60 h1)]
      rw [x_tog (L := L) (fx := fxL t 0 0 0 0) e3 (fxL_b (by decide) (by decide) (by decide) (by decide)) (h5.f17 h1 e2) (by decide), bd_s, depN, hd, if_pos rfl, fxL_D]
    · have hd : anyD (N g) = false := by simpa using hd
      refine ⟨x, ?_, okX17.rfl⟩
      rw [hd, depN, hd]; rfl
theorem m_factD (hb : True) {t : Nat} (ht : t < 2 ^ 20) (m0 : gMem) : ∀ mm : gMem, (∀ o k, o ≠ 15 → gI mm o k = gI m0 o k) → ∀ f, f < 6 → f_X12_factOf mm (nI f) (nI t) (-1) 0 = some (nI (fxD t f)) := by
  intro mm _ f hf
  unfold f_X12_factOf
  rcases (show f = 0 ∨ f = 1 ∨ f = 2 ∨ f = 3 ∨ f = 4 ∨ f = 5 by omega) with rfl | rfl | rfl | rfl | rfl | rfl <;> simp (disch := omega) only [lt1, jn, bd_s, bd2_s, oc_s, oc_n, li0, li1, li2, li3, li4, li5, li6, li7, li8, li9, li10, li11, li12, li13, li14, li16, li20, li21, li22, li24, li30, li31, li33, li38, li39, li40, li41, li45, li48, li50, li51, li57, li58, li59, li60, li61, li62, li64, li70, li71, li72, li99, li100, li101, li104, li107, li109, li116, li120, li121, li124, li127, li128, li144, li255, li300, li360, li372, li396, li600, li999, li1000, li9960, li9990, li1000000, nI_1, nI_add, pk_sub, pk_mul, pk_div, rem_nI, i_lt, i_le, i_eq, okI, ix, isB, nI_clamp, nI_toInt, tneg, gI_sI, gR_sI, gJ_sI, gI_sR, gR_sR, gJ_sR, gI_sJ, gR_sJ, gJ_sJ, true_and, and_true, false_and, and_false, if_true, if_false, if_pos, if_neg, md, fxD]
theorem m_depth (hN : NT x m N) (hC : CU x m 12 10) {t d : Nat} (ht : t < 2 ^ 20) (hd0 : gI m 0 29 = nI d) : ∃ m', f_X12_depthAt m (nI t) = some (nI (d + depN (curP N m) t), m') ∧ okM15 m m' := by
  unfold f_X12_depthAt
  rcases cur_of hN hC with ⟨h1, h2, h3⟩ | ⟨g, h1, h2, h3, h4, h5⟩
  · refine ⟨m, ?_, okM15.rfl⟩
    have e : f_X12_hasDeep m = some 0 := by
      unfold f_X12_hasDeep f_X12_begin
      rw [h1, if_neg (by decide), bd_s, lq1_u]
      generalize lq1 (s_X12_hasDeep_5 m) 999 = F
      unfold s_X12_hasDeep_5 f_X12_behind
      rw [h1, if_neg (by decide)]
      rfl
    rw [e, bd_s, if_pos rfl, hd0, h3, li8, nI_add]; rfl
  · rw [m_hasDeep h1 h2 h5, h4]
    simp only [bd_s]
    by_cases hd : anyD (N g) = true
    · obtain ⟨m', e1, e2, e3, e4⟩ := m_sum (m0 := m) (w := 0) (mm := m) h1 h2 h5 (by decide) (m_factD trivial ht m) (fun k hk => by rw [← fxL_D]; exact fxL_b (by decide) (by decide) (by decide) (by decide) k hk) (fun _ _ _ => rfl)
      refine ⟨m', ?_, ⟨e2, e3, e4⟩⟩
      rw [hd, if_pos rfl, if_neg (by decide)]
      have e1 : f_X12_sumOf m 0 (nI t) (-1) 0 = some (nI (sumN 0 (fxD t) (N g)), m') := e1
      rw [e1, bd2_s, hd0, nI_add, depN, hd, if_pos rfl]
    · have hd : anyD (N g) = false := by simpa using hd
      refine ⟨m, ?_, okM15.rfl⟩
      rw [hd, depN, hd, hd0]
      simp only [Bool.false_eq_true, if_false]
      rw [if_pos (show nI 0 = 0 from rfl), li8, nI_add]
theorem subm {a b c : Nat} (ha : a + b < 2 ^ 30) (hc : c < 2 ^ 30) : (if (0 : Int32) < nI a + (nI b - nI c) then nI a + (nI b - nI c) else (0 : Int32)) = nI (a + b - c) := by
  have e : nI a + (nI b - nI c) = nI (a + b) - nI c := by
    rw [← nI_add, Int32.sub_eq_add_neg, Int32.sub_eq_add_neg, Int32.add_assoc]
  rw [e]
  exact sub0 ha hc
theorem x_loud (hN : NT x m N) (hC : CU x m 12 10) {t b cr kd ty : Nat} (ht : t < 2 ^ 20) (hb : b < 12) (hcr : cr ≤ 9) (hkd : kd < 7) (hty : ty < 2) : ∃ x', f_X2_loud L x (nI b) (nI cr) (nI ty) (nI kd) (nI t) = some (nI (ldN (curP N m) cr ty b kd t), x') ∧ okX17 x x' := by
  unfold f_X2_loud
  simp only [lt1, jn]
  rw [li9, pk_mul, nI_add]
  rcases cur_of hN hC with ⟨h1, h2, h3⟩ | ⟨g, h1, h2, h3, h4, h5⟩
  · refine ⟨x, ?_, okX17.rfl⟩
    have := sub0 (s := cr + 9 * ty) (k := 0) (by omega) (by omega)
    rw [show nI (cr + 9 * ty) - nI 0 = nI (cr + 9 * ty) by rw [pk_sub (by omega)]; rfl] at this
    rw [h2, h3, oc_n, this]
    rfl
  · obtain ⟨x', e1, e2, e3⟩ := x_setFacts (L := L) (x := x) (t := t) (b := b) (cr := cr) (kd := kd) (ty := ty) ht hb
    refine ⟨x', ?_, e2⟩
    have hB := fxL_b (t := t) (b := b) (cr := cr) (kd := kd) (ty := ty) hb (by omega) (by omega) (by omega)
    have h6 := h5.f17 h1 e2
    have s1 := sumN_le (w := 1) (fx := fxL t b cr kd ty) (N g) 0 0 h5.2.2.2.2
    have s2 := sumN_le (w := 2) (fx := fxL t b cr kd ty) (N g) 0 0 h5.2.2.2.2
    have hl := h5.2.2.1
    have g1 := x_tog (L := L) (w := 1) e3 hB h6 (by decide)
    have g2 := x_tog (L := L) (w := 2) e3 hB h6 (by decide)
    rw [h3, h4, oc_s, if_pos (isN60 h1), e1, bd_s, e2.2.2, h3, oc_s, if_pos (isN60 h1), li1, g1, bd_s, li2, g2, bd_s, subm (by omega) (by omega)]
    rfl
theorem m_factL {T t b i kd cr : Nat} (ht : t < 2 ^ 20) (hb : b < 12) (hi : i < 4) (hT : T < 2 ^ 31) {m0 : gMem} (e1 : gI m0 1 b = nI cr) (e2 : gI m0 2 i = nI kd) (e3 : gI m0 0 3 = nI T) : ∀ mm : gMem, (∀ o k, o ≠ 15 → gI mm o k = gI m0 o k) → ∀ f, f < 6 → f_X12_factOf mm (nI f) (nI t) (nI b) (nI i) = some (nI (fxL t b cr kd (tyb T b) f)) := by
  intro mm h f hf
  have a1 := (h 1 b (by omega)).trans e1
  have a2 := (h 2 i (by omega)).trans e2
  have a3 := (h 0 3 (by omega)).trans e3
  have a4 := shr hT hb
  unfold f_X12_factOf
  rcases (show f = 0 ∨ f = 1 ∨ f = 2 ∨ f = 3 ∨ f = 4 ∨ f = 5 by omega) with rfl | rfl | rfl | rfl | rfl | rfl
  · simp (disch := omega) only [lt1, jn, bd_s, bd2_s, oc_s, oc_n, li0, li1, li2, li3, li4, li5, li6, li7, li8, li9, li10, li11, li12, li13, li14, li16, li20, li21, li22, li24, li30, li31, li33, li38, li39, li40, li41, li45, li48, li50, li51, li57, li58, li59, li60, li61, li62, li64, li70, li71, li72, li99, li100, li101, li104, li107, li109, li116, li120, li121, li124, li127, li128, li144, li255, li300, li360, li372, li396, li600, li999, li1000, li9960, li9990, li1000000, nI_1, nI_add, pk_sub, pk_mul, pk_div, rem_nI, i_lt, i_le, i_eq, okI, ix, isB, nI_clamp, nI_toInt, tneg, gI_sI, gR_sI, gJ_sI, gI_sR, gR_sR, gJ_sR, gI_sJ, gR_sJ, gJ_sJ, true_and, and_true, false_and, and_false, if_true, if_false, if_pos, if_neg, md, fxL]
  · simp (disch := omega) only [lt1, jn, bd_s, bd2_s, oc_s, oc_n, li0, li1, li2, li3, li4, li5, li6, li7, li8, li9, li10, li11, li12, li13, li14, li16, li20, li21, li22, li24, li30, li31, li33, li38, li39, li40, li41, li45, li48, li50, li51, li57, li58, li59, li60, li61, li62, li64, li70, li71, li72, li99, li100, li101, li104, li107, li109, li116, li120, li121, li124, li127, li128, li144, li255, li300, li360, li372, li396, li600, li999, li1000, li9960, li9990, li1000000, nI_1, nI_add, pk_sub, pk_mul, pk_div, rem_nI, i_lt, i_le, i_eq, okI, ix, isB, nI_clamp, nI_toInt, tneg, gI_sI, gR_sI, gJ_sI, gI_sR, gR_sR, gJ_sR, gI_sJ, gR_sJ, gJ_sJ, true_and, and_true, false_and, and_false, if_true, if_false, if_pos, if_neg, md, fxL]
  · simp (disch := omega) only [lt1, jn, bd_s, bd2_s, oc_s, oc_n, li0, li1, li2, li3, li4, li5, li6, li7, li8, li9, li10, li11, li12, li13, li14, li16, li20, li21, li22, li24, li30, li31, li33, li38, li39, li40, li41, li45, li48, li50, li51, li57, li58, li59, li60, li61, li62, li64, li70, li71, li72, li99, li100, li101, li104, li107, li109, li116, li120, li121, li124, li127, li128, li144, li255, li300, li360, li372, li396, li600, li999, li1000, li9960, li9990, li1000000, nI_1, nI_add, pk_sub, pk_mul, pk_div, rem_nI, i_lt, i_le, i_eq, okI, ix, isB, nI_clamp, nI_toInt, tneg, gI_sI, gR_sI, gJ_sI, gI_sR, gR_sR, gJ_sR, gI_sJ, gR_sJ, gJ_sJ, true_and, and_true, false_and, and_false, if_true, if_false, if_pos, if_neg, md, fxL]
  · simp (disch := omega) only [lt1, jn, bd_s, bd2_s, oc_s, oc_n, li0, li1, li2, li3, li4, li5, li6, li7, li8, li9, li10, li11, li12, li13, li14, li16, li20, li21, li22, li24, li30, li31, li33, li38, li39, li40, li41, li45, li48, li50, li51, li57, li58, li59, li60, li61, li62, li64, li70, li71, li72, li99, li100, li101, li104, li107, li109, li116, li120, li121, li124, li127, li128, li144, li255, li300, li360, li372, li396, li600, li999, li1000, li9960, li9990, li1000000, nI_1, nI_add, pk_sub, pk_mul, pk_div, rem_nI, i_lt, i_le, i_eq, okI, ix, isB, nI_clamp, nI_toInt, tneg, gI_sI, gR_sI, gJ_sI, gI_sR, gR_sR, gJ_sR, gI_sJ, gR_sJ, gJ_sJ, true_and, and_true, false_and, and_false, if_true, if_false, if_pos, if_neg, fxL, a1]
  · simp (disch := omega) only [lt1, jn, bd_s, bd2_s, oc_s, oc_n, li0, li1, li2, li3, li4, li5, li6, li7, li8, li9, li10, li11, li12, li13, li14, li16, li20, li21, li22, li24, li30, li31, li33, li38, li39, li40, li41, li45, li48, li50, li51, li57, li58, li59, li60, li61, li62, li64, li70, li71, li72, li99, li100, li101, li104, li107, li109, li116, li120, li121, li124, li127, li128, li144, li255, li300, li360, li372, li396, li600, li999, li1000, li9960, li9990, li1000000, nI_1, nI_add, pk_sub, pk_mul, pk_div, rem_nI, i_lt, i_le, i_eq, okI, ix, isB, nI_clamp, nI_toInt, tneg, gI_sI, gR_sI, gJ_sI, gI_sR, gR_sR, gJ_sR, gI_sJ, gR_sJ, gJ_sJ, true_and, and_true, false_and, and_false, if_true, if_false, if_pos, if_neg, fxL, a2]
  · rw [a3, a4]
    simp (disch := omega) only [lt1, jn, bd_s, bd2_s, oc_s, oc_n, li0, li1, li2, li3, li4, li5, li6, li7, li8, li9, li10, li11, li12, li13, li14, li16, li20, li21, li22, li24, li30, li31, li33, li38, li39, li40, li41, li45, li48, li50, li51, li57, li58, li59, li60, li61, li62, li64, li70, li71, li72, li99, li100, li101, li104, li107, li109, li116, li120, li121, li124, li127, li128, li144, li255, li300, li360, li372, li396, li600, li999, li1000, li9960, li9990, li1000000, nI_1, nI_add, pk_sub, pk_mul, pk_div, rem_nI, i_lt, i_le, i_eq, okI, ix, isB, nI_clamp, nI_toInt, tneg, gI_sI, gR_sI, gJ_sI, gI_sR, gR_sR, gJ_sR, gI_sJ, gR_sJ, gJ_sJ, true_and, and_true, false_and, and_false, if_true, if_false, if_pos, if_neg, fxL]
theorem m_loud (hN : NT x m N) (hC : CU x m 12 10) {T t b i kd cr : Nat} (ht : t < 2 ^ 20) (hb : b < 12) (hi : i < 4) (hT : T < 2 ^ 31) (hcr : cr ≤ 9) (hkd : kd < 7) (a1 : gI m 1 b = nI cr) (a2 : gI m 2 i = nI kd) (a3 : gI m 0 3 = nI T) : ∃ m', f_X12_loud m (nI i) (nI b) (nI t) = some (nI (ldN (curP N m) cr (tyb T b) b kd t), m') ∧ okM15 m m' := by
  unfold f_X12_loud f_X12_has
  have hy := tyb_lt T b
  rw [if_pos (okN hb (by decide)), ixN (by omega), a3, shr hT hb, a1]
  have he : ∀ K : Int32 → Option (Int32 × gMem), (bd (if nI (tyb T b) = (1 : Int32) then some (1 : Int32) else some 0) fun (x1 : Int32) => jn K fun j2 => if x1 = 0 then j2 0 else j2 9) = K (nI (9 * tyb T b)) := by
    intro K
    rcases (show tyb T b = 0 ∨ tyb T b = 1 by omega) with h | h <;> rw [h] <;> rfl
  rw [he]
  simp only [lt1]
  rcases cur_of hN hC with ⟨h1, h2, h3⟩ | ⟨g, h1, h2, h3, h4, h5⟩
  · refine ⟨m, ?_, okM15.rfl⟩
    have hs : ∀ w : Int32, f_X12_sumOf m w (nI t) (nI b) (nI i) = some (0, m) := by
      intro w
      unfold f_X12_sumOf f_X12_begin
      rw [h1, if_neg (by decide), bd_s, lq3_u]
      generalize lq3 (s_X12_sumOf_9 w (nI t) (nI b) (nI i)) 999 = F
      unfold s_X12_sumOf_9 f_X12_behind
      rw [h1, if_neg (by decide)]
      rfl
    rw [hs, bd2_s, hs, bd2_s, h3, nI_add, li0, nI_add, pk_sub (by omega), if_pos (nI_le (by omega) (by omega))]
    rfl
  · have hB := fxL_b (t := t) (b := b) (cr := cr) (kd := kd) (ty := tyb T b) hb (by omega) (by omega) (by omega)
    have hF := m_factL ht hb hi hT a1 a2 a3
    obtain ⟨m1, d1, d2, d3, d4⟩ := m_sum (m0 := m) (w := 1) (mm := m) h1 h2 h5 (by decide) hF hB (fun _ _ _ => rfl)
    obtain ⟨m2, f1, f2, f3, f4⟩ := m_sum (m0 := m) (w := 2) (mm := m1) h1 h2 h5 (by decide) hF hB d2
    refine ⟨m2, ?_, ⟨f2, fun o k => (f3 o k).trans (d3 o k), fun o k => (f4 o k).trans (d4 o k)⟩⟩
    have s1 := sumN_le (w := 1) (fx := fxL t b cr kd (tyb T b)) (N g) 0 0 h5.2.2.2.2
    have s2 := sumN_le (w := 2) (fx := fxL t b cr kd (tyb T b)) (N g) 0 0 h5.2.2.2.2
    have hl := h5.2.2.1
    rw [li1, d1, bd2_s, li2, f1, bd2_s, nI_add, nI_add, h4]
    have e := pk_sub_toInt (a := cr + 9 * tyb T b + sumN 1 (fxL t b cr kd (tyb T b)) (N g)) (b := sumN 2 (fxL t b cr kd (tyb T b)) (N g)) (by omega) (by omega)
    by_cases hh : sumN 2 (fxL t b cr kd (tyb T b)) (N g) ≤ cr + 9 * tyb T b + sumN 1 (fxL t b cr kd (tyb T b)) (N g)
    · rw [if_pos (by rw [i_le, e]; show (0 : Int) ≤ _; omega), pk_sub hh]; rfl
    · rw [if_neg (by rw [i_le, e]; show ¬ (0 : Int) ≤ _; omega), ldN, show cr + 9 * tyb T b + sumN 1 (fxL t b cr kd (tyb T b)) (N g) - sumN 2 (fxL t b cr kd (tyb T b)) (N g) = 0 by omega]; rfl
theorem x_mod {t d : Nat} (ht : t < 2 ^ 20) (hd : 0 < d) (hd2 : d < 100) : f_J9_floorMod_7cf53 (nI t) (nI d) = some (nI (t % d)) := by
  unfold f_J9_floorMod_7cf53
  have hx : 0 ≤ (nI t ^^^ nI d).toInt := by
    rw [show nI t ^^^ nI d = nI (t ^^^ d) by
      apply Int32.toBitVec_inj.1
      show BitVec.ofNat 32 t ^^^ BitVec.ofNat 32 d = BitVec.ofNat 32 (t ^^^ d)
      apply BitVec.eq_of_getLsbD_eq
      intro i hi
      simp [hi]]
    have := Nat.xor_lt_two_pow (x := t) (y := d) (n := 20) ht (by omega)
    rw [nI_toInt (by omega)]; omega
  rw [if_pos (nI_ne0 hd (by omega)), lt1_s, rem_nI (by omega) hd (by omega), if_pos (by rw [i_le]; exact hx)]
theorem x_noise1 {w v kd : Nat} {row : Nat → Nat} (hk : wkd w = kd) (hk7 : kd < 7) (hv : v ≤ 9) (e1 : gI x w 1 = nI v) (e2 : kd = 6 → ∀ j, j < 4 → gI x (w + 2) j = nI (row j)) {l t : Nat} (hl : l ≤ 2000) (ht : t < 2 ^ 20) : d_noise L x w (nI l) (nI t) = some (nI (nzN kd v row l t)) := by
  unfold d_noise f_X9_noise f_X1_noise f_X6_noise f_X5_noise f_X7_noise f_X0_noise f_X8_noise f_X1_noise f_X6_noise f_X5_noise
  rw [hk]
  have h3 := sub0 (s := l) (k := 3) (by omega) (by omega)
  rcases (show kd = 0 ∨ kd = 1 ∨ kd = 2 ∨ kd = 3 ∨ kd = 4 ∨ kd = 5 ∨ kd = 6 by omega) with rfl | rfl | rfl | rfl | rfl | rfl | rfl
  · rfl
  · simp (disch := omega) only [lt1, jn, bd_s, bd2_s, oc_s, oc_n, li0, li1, li2, li3, li4, li5, li6, li7, li8, li9, li10, li11, li12, li13, li14, li16, li20, li21, li22, li24, li30, li31, li33, li38, li39, li40, li41, li45, li48, li50, li51, li57, li58, li59, li60, li61, li62, li64, li70, li71, li72, li99, li100, li101, li104, li107, li109, li116, li120, li121, li124, li127, li128, li144, li255, li300, li360, li372, li396, li600, li999, li1000, li9960, li9990, li1000000, nI_1, nI_add, pk_sub, pk_mul, pk_div, rem_nI, i_lt, i_le, i_eq, okI, ix, isB, nI_clamp, nI_toInt, tneg, gI_sI, gR_sI, gJ_sI, gI_sR, gR_sR, gJ_sR, gI_sJ, gR_sJ, gJ_sJ, true_and, and_true, false_and, and_false, if_true, if_false, if_pos, if_neg, md, e1, nzN]
  · simp (disch := omega) only [lt1, jn, bd_s, bd2_s, oc_s, oc_n, li0, li1, li2, li3, li4, li5, li6, li7, li8, li9, li10, li11, li12, li13, li14, li16, li20, li21, li22, li24, li30, li31, li33, li38, li39, li40, li41, li45, li48, li50, li51, li57, li58, li59, li60, li61, li62, li64, li70, li71, li72, li99, li100, li101, li104, li107, li109, li116, li120, li121, li124, li127, li128, li144, li255, li300, li360, li372, li396, li600, li999, li1000, li9960, li9990, li1000000, nI_1, nI_add, pk_sub, pk_mul, pk_div, rem_nI, i_lt, i_le, i_eq, okI, ix, isB, nI_clamp, nI_toInt, tneg, gI_sI, gR_sI, gJ_sI, gI_sR, gR_sR, gJ_sR, gI_sJ, gR_sJ, gJ_sJ, true_and, and_true, false_and, and_false, if_true, if_false, if_pos, if_neg, nzN]
  · simp (disch := omega) only [if_neg, if_pos, nzN]
    exact congrArg some h3
  · simp (disch := omega) only [lt1, jn, bd_s, bd2_s, oc_s, oc_n, li0, li1, li2, li3, li4, li5, li6, li7, li8, li9, li10, li11, li12, li13, li14, li16, li20, li21, li22, li24, li30, li31, li33, li38, li39, li40, li41, li45, li48, li50, li51, li57, li58, li59, li60, li61, li62, li64, li70, li71, li72, li99, li100, li101, li104, li107, li109, li116, li120, li121, li124, li127, li128, li144, li255, li300, li360, li372, li396, li600, li999, li1000, li9960, li9990, li1000000, nI_1, nI_add, pk_sub, pk_mul, pk_div, rem_nI, i_lt, i_le, i_eq, okI, ix, isB, nI_clamp, nI_toInt, tneg, gI_sI, gR_sI, gJ_sI, gI_sR, gR_sR, gJ_sR, gI_sJ, gR_sJ, gJ_sJ, true_and, and_true, false_and, and_false, if_true, if_false, if_pos, if_neg, md, e1, nzN]
  · by_cases h : v < l <;> simp (disch := omega) only [lt1, jn, bd_s, bd2_s, oc_s, oc_n, li0, li1, li2, li3, li4, li5, li6, li7, li8, li9, li10, li11, li12, li13, li14, li16, li20, li21, li22, li24, li30, li31, li33, li38, li39, li40, li41, li45, li48, li50, li51, li57, li58, li59, li60, li61, li62, li64, li70, li71, li72, li99, li100, li101, li104, li107, li109, li116, li120, li121, li124, li127, li128, li144, li255, li300, li360, li372, li396, li600, li999, li1000, li9960, li9990, li1000000, nI_1, nI_add, pk_sub, pk_mul, pk_div, rem_nI, i_lt, i_le, i_eq, okI, ix, isB, nI_clamp, nI_toInt, tneg, gI_sI, gR_sI, gJ_sI, gI_sR, gR_sR, gJ_sR, gI_sJ, gR_sJ, gJ_sJ, true_and, and_true, false_and, and_false, if_true, if_false, if_pos, if_neg, md, e1, nzN]
  · have := x_mod (t := t) (d := 4) ht (by decide) (by decide)
    have hr := e2 rfl (t % 4) (by omega)
    have h3' : (if (0 : Int32) < nI l - 3 then nI l - 3 else 0) = nI (l - 3) := h3
    simp (disch := omega) only [if_neg, bd_s, h3', li4, this, nzN]
    rw [if_pos (okN (show t % 4 < 4 by omega) (by decide)), ixN (by omega), hr, nI_add]
theorem m_noise1 {v kd i b : Nat} {row : Nat → Nat} (hi : i < 4) (hk7 : kd < 7) (e0 : gI m 2 i = nI kd) (e1 : gI m 3 i = nI v) (e2 : ∀ j, j < 4 → gI m 5 (4 * i + j) = nI (row j)) (hv : v ≤ 9) {l t : Nat} (hl : l ≤ 2000) (ht : t < 2 ^ 20) {m1 : gMem} (hm : okM15 m m1) (hL : f_X12_loud m (nI i) (nI b) (nI t) = some (nI l, m1)) : f_X12_noise m (nI i) (nI b) (nI t) = some (nI (nzN kd v row l t), m1) := by
  unfold f_X12_noise f_X12_slowly
  rw [hL]
  have a0 := (hm.1 2 i (by omega)).trans e0
  have a1 := (hm.1 3 i (by omega)).trans e1
  rcases (show kd = 0 ∨ kd = 1 ∨ kd = 2 ∨ kd = 3 ∨ kd = 4 ∨ kd = 5 ∨ kd = 6 by omega) with rfl | rfl | rfl | rfl | rfl | rfl | rfl
  · simp (disch := omega) only [lt1, jn, bd_s, bd2_s, oc_s, oc_n, li0, li1, li2, li3, li4, li5, li6, li7, li8, li9, li10, li11, li12, li13, li14, li16, li20, li21, li22, li24, li30, li31, li33, li38, li39, li40, li41, li45, li48, li50, li51, li57, li58, li59, li60, li61, li62, li64, li70, li71, li72, li99, li100, li101, li104, li107, li109, li116, li120, li121, li124, li127, li128, li144, li255, li300, li360, li372, li396, li600, li999, li1000, li9960, li9990, li1000000, nI_1, nI_add, pk_sub, pk_mul, pk_div, rem_nI, i_lt, i_le, i_eq, okI, ix, isB, nI_clamp, nI_toInt, tneg, gI_sI, gR_sI, gJ_sI, gI_sR, gR_sR, gJ_sR, gI_sJ, gR_sJ, gJ_sJ, true_and, and_true, false_and, and_false, if_true, if_false, if_pos, if_neg, a0, nzN]
  · simp (disch := omega) only [lt1, jn, bd_s, bd2_s, oc_s, oc_n, li0, li1, li2, li3, li4, li5, li6, li7, li8, li9, li10, li11, li12, li13, li14, li16, li20, li21, li22, li24, li30, li31, li33, li38, li39, li40, li41, li45, li48, li50, li51, li57, li58, li59, li60, li61, li62, li64, li70, li71, li72, li99, li100, li101, li104, li107, li109, li116, li120, li121, li124, li127, li128, li144, li255, li300, li360, li372, li396, li600, li999, li1000, li9960, li9990, li1000000, nI_1, nI_add, pk_sub, pk_mul, pk_div, rem_nI, i_lt, i_le, i_eq, okI, ix, isB, nI_clamp, nI_toInt, tneg, gI_sI, gR_sI, gJ_sI, gI_sR, gR_sR, gJ_sR, gI_sJ, gR_sJ, gJ_sJ, true_and, and_true, false_and, and_false, if_true, if_false, if_pos, if_neg, md, a0, a1, nzN]
  · simp (disch := omega) only [lt1, jn, bd_s, bd2_s, oc_s, oc_n, li0, li1, li2, li3, li4, li5, li6, li7, li8, li9, li10, li11, li12, li13, li14, li16, li20, li21, li22, li24, li30, li31, li33, li38, li39, li40, li41, li45, li48, li50, li51, li57, li58, li59, li60, li61, li62, li64, li70, li71, li72, li99, li100, li101, li104, li107, li109, li116, li120, li121, li124, li127, li128, li144, li255, li300, li360, li372, li396, li600, li999, li1000, li9960, li9990, li1000000, nI_1, nI_add, pk_sub, pk_mul, pk_div, rem_nI, i_lt, i_le, i_eq, okI, ix, isB, nI_clamp, nI_toInt, tneg, gI_sI, gR_sI, gJ_sI, gI_sR, gR_sR, gJ_sR, gI_sJ, gR_sJ, gJ_sJ, true_and, and_true, false_and, and_false, if_true, if_false, if_pos, if_neg, a0, nzN]
  · by_cases h : 3 ≤ l
    · simp (disch := omega) only [lt1, jn, bd_s, bd2_s, oc_s, oc_n, li0, li1, li2, li3, li4, li5, li6, li7, li8, li9, li10, li11, li12, li13, li14, li16, li20, li21, li22, li24, li30, li31, li33, li38, li39, li40, li41, li45, li48, li50, li51, li57, li58, li59, li60, li61, li62, li64, li70, li71, li72, li99, li100, li101, li104, li107, li109, li116, li120, li121, li124, li127, li128, li144, li255, li300, li360, li372, li396, li600, li999, li1000, li9960, li9990, li1000000, nI_1, nI_add, pk_sub, pk_mul, pk_div, rem_nI, i_lt, i_le, i_eq, okI, ix, isB, nI_clamp, nI_toInt, tneg, gI_sI, gR_sI, gJ_sI, gI_sR, gR_sR, gJ_sR, gI_sJ, gR_sJ, gJ_sJ, true_and, and_true, false_and, and_false, if_true, if_false, if_pos, if_neg, a0, nzN]
    · rw [nzN, show l - 3 = 0 by omega]; simp (disch := omega) only [lt1, jn, bd_s, bd2_s, oc_s, oc_n, li0, li1, li2, li3, li4, li5, li6, li7, li8, li9, li10, li11, li12, li13, li14, li16, li20, li21, li22, li24, li30, li31, li33, li38, li39, li40, li41, li45, li48, li50, li51, li57, li58, li59, li60, li61, li62, li64, li70, li71, li72, li99, li100, li101, li104, li107, li109, li116, li120, li121, li124, li127, li128, li144, li255, li300, li360, li372, li396, li600, li999, li1000, li9960, li9990, li1000000, nI_1, nI_add, pk_sub, pk_mul, pk_div, rem_nI, i_lt, i_le, i_eq, okI, ix, isB, nI_clamp, nI_toInt, tneg, gI_sI, gR_sI, gJ_sI, gI_sR, gR_sR, gJ_sR, gI_sJ, gR_sJ, gJ_sJ, true_and, and_true, false_and, and_false, if_true, if_false, if_pos, if_neg, a0]
  · simp (disch := omega) only [lt1, jn, bd_s, bd2_s, oc_s, oc_n, li0, li1, li2, li3, li4, li5, li6, li7, li8, li9, li10, li11, li12, li13, li14, li16, li20, li21, li22, li24, li30, li31, li33, li38, li39, li40, li41, li45, li48, li50, li51, li57, li58, li59, li60, li61, li62, li64, li70, li71, li72, li99, li100, li101, li104, li107, li109, li116, li120, li121, li124, li127, li128, li144, li255, li300, li360, li372, li396, li600, li999, li1000, li9960, li9990, li1000000, nI_1, nI_add, pk_sub, pk_mul, pk_div, rem_nI, i_lt, i_le, i_eq, okI, ix, isB, nI_clamp, nI_toInt, tneg, gI_sI, gR_sI, gJ_sI, gI_sR, gR_sR, gJ_sR, gI_sJ, gR_sJ, gJ_sJ, true_and, and_true, false_and, and_false, if_true, if_false, if_pos, if_neg, md, a0, a1, nzN]
  · by_cases h : v < l <;> simp (disch := omega) only [lt1, jn, bd_s, bd2_s, oc_s, oc_n, li0, li1, li2, li3, li4, li5, li6, li7, li8, li9, li10, li11, li12, li13, li14, li16, li20, li21, li22, li24, li30, li31, li33, li38, li39, li40, li41, li45, li48, li50, li51, li57, li58, li59, li60, li61, li62, li64, li70, li71, li72, li99, li100, li101, li104, li107, li109, li116, li120, li121, li124, li127, li128, li144, li255, li300, li360, li372, li396, li600, li999, li1000, li9960, li9990, li1000000, nI_1, nI_add, pk_sub, pk_mul, pk_div, rem_nI, i_lt, i_le, i_eq, okI, ix, isB, nI_clamp, nI_toInt, tneg, gI_sI, gR_sI, gJ_sI, gI_sR, gR_sR, gJ_sR, gI_sJ, gR_sJ, gJ_sJ, true_and, and_true, false_and, and_false, if_true, if_false, if_pos, if_neg, md, a0, a1, nzN]
  · have a2 := (hm.1 5 (4 * i + t % 4) (by omega)).trans (e2 (t % 4) (by omega))
    by_cases h : 3 ≤ l
    · simp (disch := omega) only [lt1, jn, bd_s, bd2_s, oc_s, oc_n, li0, li1, li2, li3, li4, li5, li6, li7, li8, li9, li10, li11, li12, li13, li14, li16, li20, li21, li22, li24, li30, li31, li33, li38, li39, li40, li41, li45, li48, li50, li51, li57, li58, li59, li60, li61, li62, li64, li70, li71, li72, li99, li100, li101, li104, li107, li109, li116, li120, li121, li124, li127, li128, li144, li255, li300, li360, li372, li396, li600, li999, li1000, li9960, li9990, li1000000, nI_1, nI_add, pk_sub, pk_mul, pk_div, rem_nI, i_lt, i_le, i_eq, okI, ix, isB, nI_clamp, nI_toInt, tneg, gI_sI, gR_sI, gJ_sI, gI_sR, gR_sR, gJ_sR, gI_sJ, gR_sJ, gJ_sJ, true_and, and_true, false_and, and_false, if_true, if_false, if_pos, if_neg, md, a0, a2, nzN]
    · rw [show nzN 6 v row l t = l - 3 + row (t % 4) from rfl, show l - 3 = 0 by omega]; simp (disch := omega) only [lt1, jn, bd_s, bd2_s, oc_s, oc_n, li0, li1, li2, li3, li4, li5, li6, li7, li8, li9, li10, li11, li12, li13, li14, li16, li20, li21, li22, li24, li30, li31, li33, li38, li39, li40, li41, li45, li48, li50, li51, li57, li58, li59, li60, li61, li62, li64, li70, li71, li72, li99, li100, li101, li104, li107, li109, li116, li120, li121, li124, li127, li128, li144, li255, li300, li360, li372, li396, li600, li999, li1000, li9960, li9990, li1000000, nI_1, nI_add, pk_sub, pk_mul, pk_div, rem_nI, i_lt, i_le, i_eq, okI, ix, isB, nI_clamp, nI_toInt, tneg, gI_sI, gR_sI, gJ_sI, gI_sR, gR_sR, gJ_sR, gI_sJ, gR_sJ, gJ_sJ, true_and, and_true, false_and, and_false, if_true, if_false, if_pos, if_neg, md, a0, a2]
end N1
