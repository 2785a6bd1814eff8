/-! NOISE of a WALKER, both sides; steps -/
def nzG (P : List cls) (kd v : Nat) (row cr : Nat → Nat) (T b t : Nat) : Nat := nzN kd v row (ldN P (cr b) (tyb T b) b kd t) t
/-- what the reference's NOISE rests on -/
def MN (x m : gMem) (N : Nat → List cls) (i kd v : Nat) (row cr : Nat → Nat) (T : Nat) : Prop := NT x m N ∧ CU x m 12 10 ∧ i < 4 ∧ kd < 7 ∧ v ≤ 9 ∧ (∀ j, j < 4 → row j ≤ 9) ∧ gI m 2 i = nI kd ∧ gI m 3 i = nI v ∧ (∀ j, j < 4 → gI m 5 (4 * i + j) = nI (row j)) ∧ (∀ b, b < 12 → cr b ≤ 9 ∧ gI m 1 b = nI (cr b)) ∧ T ≤ 4095 ∧ gI m 0 3 = nI T
def bes (a b : Nat) : Bool := ((a % 6 + 1 == b % 6 || b % 6 + 1 == a % 6) && a / 6 == b / 6) || (a % 6 == b % 6 && !(a / 6 == b / 6))
theorem x_bes1 : ∀ a, a < 12 → ∀ b, b < 12 → f_X11_areBeside (nI a) (nI b) = some (nI (if bes a b then 1 else 0)) := by decide +kernel
theorem x_bes2 : ∀ a, a < 12 → f_X11_areBeside (nI a) (-2) = some 0 := by decide +kernel
theorem m_bes1 : ∀ a, a < 12 → ∀ b, b < 12 → f_X12_areBeside (nI a) (nI b) = some (nI (if bes a b then 1 else 0)) := by decide +kernel
def tmN (kd : Nat) : Nat := if kd = 3 ∨ kd = 6 then 2 else 1
def sbN (n d s : Nat) : Nat := if n ≤ d then (if 2 * n ≤ d then s else s + 1) else 3
theorem ldN_le {P : List cls} {x m : gMem} {g : Nat} (h : P = [] ∨ ntOK x m g P) {cr ty b kd t : Nat} (hc : cr ≤ 9) (hy : ty < 2) : ldN P cr ty b kd t ≤ 1010 := by
  unfold ldN
  rcases h with rfl | h
  · simp only [sumN]; omega
  · have s1 := sumN_le (w := 1) (fx := fxL t b cr kd ty) P 0 0 h.2.2.2.2
    have := h.2.2.1
    omega
theorem depN_le {P : List cls} {x m : gMem} {g : Nat} (h : P = [] ∨ ntOK x m g P) {t : Nat} : depN P t ≤ 1000 := by
  unfold depN
  split
  · rcases h with rfl | h
    · simp [sumN]
    · have s1 := sumN_le (w := 0) (fx := fxD t) P 0 0 h.2.2.2.2
      have := h.2.2.1
      omega
  · omega
theorem nzN_le {kd v : Nat} {row : Nat → Nat} {l t : Nat} (hv : v ≤ 9) (hr : ∀ j, j < 4 → row j ≤ 9) (hl : l ≤ 1010) : nzN kd v row l t ≤ 1030 := by
  have := hr (t % 4) (by omega)
  unfold nzN
  split <;> (try split) <;> omega
section N2
variable {L : List Nat} {W : Nat → Nat} {N : Nat → List cls} {x m x' m' : gMem} {i kd v T : Nat} {row cr : Nat → Nat}
theorem curOK (hN : NT x m N) (hC : CU x m 12 10) : curP N m = [] ∨ ∃ g, ntOK x m g (curP N m) := by
  rcases cur_of hN hC with ⟨-, -, h⟩ | ⟨g, -, -, -, h4, h5⟩
  · exact Or.inl h
  · exact Or.inr ⟨g, h4 ▸ h5⟩
theorem dep_le (hN : NT x m N) (hC : CU x m 12 10) (t : Nat) : depN (curP N m) t ≤ 1000 := by
  rcases curOK hN hC with h | ⟨g, h⟩
  · exact depN_le (x := x) (m := m) (g := 0) (Or.inl h)
  · exact depN_le (Or.inr h)
theorem ld_le (hN : NT x m N) (hC : CU x m 12 10) {cr ty b kd t : Nat} (hc : cr ≤ 9) (hy : ty < 2) : ldN (curP N m) cr ty b kd t ≤ 1010 := by
  rcases curOK hN hC with h | ⟨g, h⟩
  · exact ldN_le (x := x) (m := m) (g := 0) (Or.inl h) hc hy
  · exact ldN_le (Or.inr h) hc hy
theorem MN.le (h : MN x m N i kd v row cr T) {b : Nat} (hb : b < 12) (t : Nat) : nzG (curP N m) kd v row cr T b t ≤ 1030 :=
  nzN_le h.2.2.2.2.1 h.2.2.2.2.2.1 (ld_le h.1 h.2.1 (h.2.2.2.2.2.2.2.2.2.1 b hb).1 (tyb_lt _ _))
theorem MN.noise (h : MN x m N i kd v row cr T) {b t : Nat} (hb : b < 12) (ht : t < 2 ^ 20) : ∃ m', f_X12_noise m (nI i) (nI b) (nI t) = some (nI (nzG (curP N m) kd v row cr T b t), m') ∧ okM15 m m' := by
  obtain ⟨hN, hC, h3, h4, h5, h6, h7, h8, h9, h10, h11, h12⟩ := h
  obtain ⟨m', e1, e2⟩ := m_loud hN hC ht hb h3 (show T < 2 ^ 31 by omega) (h10 b hb).1 h4 (h10 b hb).2 h7 h12
  have := ld_le hN hC (b := b) (kd := kd) (t := t) (h10 b hb).1 (tyb_lt T b)
  exact ⟨m', m_noise1 h3 h4 h7 h8 h9 h5 (by omega) ht e2 e1, e2⟩
theorem MN.fr (h : MN x m N i kd v row cr T) (hm : ∀ o k, (o = 0 ∧ (k = 3 ∨ k = 11 ∨ k = 12)) ∨ (1 ≤ o ∧ o ≤ 12) → gI m' o k = gI m o k) : MN x m' N i kd v row cr T := by
  obtain ⟨hN, hC, h3, h4, h5, h6, h7, h8, h9, h10, h11, h12⟩ := h
  refine ⟨hN.fr (fun _ _ _ => rfl) (fun _ => rfl) (fun o k q => hm o k (by omega)), hC.fr rfl (hm _ _ (by omega)) (hm _ _ (by omega)), h3, h4, h5, h6, ?_, ?_, ?_, ?_, h11, ?_⟩
  · rw [hm _ _ (by omega)]; exact h7
  · rw [hm _ _ (by omega)]; exact h8
  · intro j hj; rw [hm _ _ (by omega)]; exact h9 j hj
  · intro b hb; rw [hm _ _ (by omega)]; exact h10 b hb
  · rw [hm _ _ (by omega)]; exact h12
theorem curP_fr (h : gI m' 0 12 = gI m 0 12) : curP N m' = curP N m := by unfold curP; rw [h]
theorem nI_of_rg {z : Int32} {B : Nat} (h : rg z B) (hB : B < 2 ^ 31) : z = nI (ix z) ∧ ix z ≤ B := by
  obtain ⟨n, hn, rfl⟩ := h
  rw [ixN (by omega)]
  exact ⟨rfl, hn⟩
def vO (m : gMem) (i : Nat) : Nat := ix (gI m 3 i)
def rowO (m : gMem) (i j : Nat) : Nat := ix (gI m 5 (4 * i + j))
def crO (m : gMem) (b : Nat) : Nat := ix (gI m 1 b)
def tyO (m : gMem) : Nat := ix (gI m 0 3)
theorem Rel.mn (H : Rel L W N x m) {n : Nat} (hn : n ≤ 4) (en : gI m 0 0 = nI n) (hi : i < n) : MN x m N i (wkd (W i)) (vO m i) (rowO m i) (crO m) (tyO m) := by
  obtain ⟨q1, q2, q3, q4, q5, q6, q7, q8, q9⟩ := (H.2.1.w en hn).1 i hi
  have r4 : rg (gI m 0 3) 4095 := H.1.2.2.2.2.2.1
  have r10 : ∀ k, k < 12 → rg (gI m 1 k) 9 := H.1.2.2.2.2.2.2.2.2.2.2.2.1
  refine ⟨H.2.2.2.2.1, H.2.2.2.2.2.1, by omega, q1.2.2.1, (nI_of_rg q6 (by decide)).2, fun j hj => (nI_of_rg (q9 j hj).1 (by decide)).2, q4, (nI_of_rg q6 (by decide)).1, fun j hj => (nI_of_rg (q9 j hj).1 (by decide)).1, fun b hb => ⟨(nI_of_rg (r10 b hb) (by decide)).2, (nI_of_rg (r10 b hb) (by decide)).1⟩, (nI_of_rg r4 (by decide)).2, (nI_of_rg r4 (by decide)).1⟩
/-- NOISE of the i-th on a BOARD -/
def nzO (N : Nat → List cls) (W : Nat → Nat) (m : gMem) (i b t : Nat) : Nat := nzG (curP N m) (wkd (W i)) (vO m i) (rowO m i) (crO m) (tyO m) b t
theorem Rel.mnoise (H : Rel L W N x m) {n : Nat} (hn : n ≤ 4) (en : gI m 0 0 = nI n) (hi : i < n) {b t : Nat} (hb : b < 12) (ht : t < 2 ^ 20) : ∃ m', f_X12_noise m (nI i) (nI b) (nI t) = some (nI (nzO N W m i b t), m') ∧ okM15 m m' := (H.mn hn en hi).noise hb ht
theorem Rel.xnoise (H : Rel L W N x m) {n : Nat} (hn : n ≤ 4) (en : gI m 0 0 = nI n) (hi : i < n) {b t : Nat} (hb : b < 12) (ht : t < 2 ^ 20) : ∃ x', f_X2_noise L x (W i) (nI b) (nI t) = some (nI (nzO N W m i b t), x') ∧ okX17 x x' := by
  obtain ⟨q1, q2, q3, q4, q5, q6, q7, q8, q9⟩ := (H.2.1.w en hn).1 i hi
  have z3 := q1.1
  have M := H.mn hn en hi
  obtain ⟨hN, hC, h3, h4, h5, h6, h7, h8, h9, h10, h11, h12⟩ := M
  have ex1 : gI x 11 b = gI m 1 b := H.1.2.1.1 b hb
  have ex2 : gI x 10 1 = gI m 0 3 := H.1.1.1
  have hs := shr (T := tyO m) (b := b) (by omega) hb
  obtain ⟨x', e1, e2⟩ := x_loud (L := L) hN hC (t := t) (b := b) (cr := crO m b) (kd := wkd (W i)) (ty := tyb (tyO m) b) ht hb (h10 b hb).1 h4 (tyb_lt _ _)
  have hl := ld_le hN hC (b := b) (kd := wkd (W i)) (t := t) (h10 b hb).1 (tyb_lt (tyO m) b)
  refine ⟨x', ?_, e2⟩
  unfold f_X2_noise f_X2_toyOn
  rw [x_isBoard, if_pos (okN hb (by decide)), bd_s, if_neg (by decide), if_pos (okN hb (by decide)), bd_s, x_kind h4, bd_s, ixN (by omega), ex1, (h10 b hb).2, ex2, h12, hs, e1, bd2_s]
  rw [x_noise1 (row := rowO m i) rfl h4 h5 ((e2.1 _ _ (by omega)).trans (q5.trans h8)) (fun h6 j hj => (e2.1 _ _ (by omega)).trans (((q9 j hj).2 h6).trans (h9 j hj))) (by omega) ht]
  rfl
theorem Rel.xdepth (H : Rel L W N x m) {t : Nat} (ht : t < 2 ^ 20) : ∃ x', f_X2_depth L x (nI t) = some (nI (depN (curP N m) t), x') ∧ okX17 x x' := x_depth H.2.2.2.2.1 H.2.2.2.2.2.1 ht
theorem Rel.mdepth (H : Rel L W N x m) {t : Nat} (ht : t < 2 ^ 20) : ∃ m', f_X12_depthAt m (nI t) = some (nI (depN (curP N m) t), m') ∧ okM15 m m' := by
  have := m_depth H.2.2.2.2.1 H.2.2.2.2.2.1 ht H.2.2.2.2.2.2.2.1.1
  rw [Nat.zero_add] at this
  exact this
theorem x_time {w : Nat} (hk : wkd w < 7) : d_stepMinutes L x w = some (nI (tmN (wkd w))) := by
  unfold d_stepMinutes f_X9_stepMinutes f_X5_stepMinutes
  generalize wkd w = k at hk
  exact kin (P := fun k => (if k = 0 then some (1 : Int32) else if k = 1 then some 1 else if k = 2 then some 1 else if k = 3 then some 2 else if k = 4 then some 1 else if k = 5 then some 1 else some 2) = some (nI (tmN k))) hk rfl rfl rfl rfl rfl rfl rfl
theorem m_time (hi : i < 4) (hk : kd < 7) (e : gI m 2 i = nI kd) : f_X12_timeOf m (nI i) = some (nI (tmN kd)) := by
  unfold f_X12_timeOf
  have c := okN hi (show 4 < 2 ^ 31 by decide)
  simp only [jn, if_pos c]
  rw [ixN (by omega), e]
  exact kin (P := fun k => (if nI k = 3 then some (2 : Int32) else if nI k = 6 then some 2 else some 1) = some (nI (tmN k))) hk rfl rfl rfl rfl rfl rfl rfl
theorem tmN_le (k : Nat) : 1 ≤ tmN k ∧ tmN k ≤ 2 := by unfold tmN; split <;> omega
theorem x_sb {n d s : Nat} (hn : n ≤ 2000) (hd : d ≤ 2000) (hs : s ≤ 3) : f_X11_stirsBehind (nI n) (nI d) (nI s) = some (nI (sbN n d s)) := by
  unfold f_X11_stirsBehind sbN
  by_cases h1 : n ≤ d <;> by_cases h2 : 2 * n ≤ d <;> simp (disch := omega) only [lt1, jn, bd_s, bd2_s, oc_s, oc_n, li0, li1, li2, li3, li4, li5, li6, li7, li8, li9, li10, li11, li12, li13, li14, li16, li20, li21, li22, li24, li30, li31, li33, li38, li39, li40, li41, li45, li48, li50, li51, li57, li58, li59, li60, li61, li62, li64, li70, li71, li72, li99, li100, li101, li104, li107, li109, li116, li120, li121, li124, li127, li128, li144, li255, li300, li360, li372, li396, li600, li999, li1000, li9960, li9990, li1000000, nI_1, nI_add, pk_sub, pk_mul, pk_div, rem_nI, i_lt, i_le, i_eq, okI, ix, isB, nI_clamp, nI_toInt, tneg, gI_sI, gR_sI, gJ_sI, gI_sR, gR_sR, gJ_sR, gI_sJ, gR_sJ, gJ_sJ, true_and, and_true, false_and, and_false, if_true, if_false, if_pos, if_neg]
theorem Rel.msb (H : Rel L W N x m) {n : Nat} (hn : n ≤ 4) (en : gI m 0 0 = nI n) (hi : i < n) {b t s : Nat} (hb : b < 12) (ht : t < 2 ^ 20) (hs : s ≤ 3) : ∃ m', f_X12_stirsBy m (nI i) (nI b) (nI t) (nI s) = some (nI (sbN (nzO N W m i b t) (depN (curP N m) t) s), m') ∧ okM15 m m' := by
  obtain ⟨m1, e1, e2⟩ := H.mnoise hn en hi hb ht
  have H1 := H.fr agX.rfl e2.ag
  obtain ⟨m2, f1, f2⟩ := H1.mdepth ht
  rw [curP_fr (N := N) (e2.1 0 12 (by omega))] at f1
  refine ⟨m2, ?_, e2.trans f2⟩
  have h1 : nzO N W m i b t ≤ 1030 := (H.mn hn en hi).le hb t
  have h2 := dep_le H.2.2.2.2.1 H.2.2.2.2.2.1 t
  unfold f_X12_stirsBy sbN
  rw [e1, bd2_s, f1, bd2_s]
  by_cases h3 : nzO N W m i b t ≤ depN (curP N m) t <;> by_cases h4 : 2 * nzO N W m i b t ≤ depN (curP N m) t <;> simp (disch := omega) only [lt1, jn, bd_s, bd2_s, oc_s, oc_n, li0, li1, li2, li3, li4, li5, li6, li7, li8, li9, li10, li11, li12, li13, li14, li16, li20, li21, li22, li24, li30, li31, li33, li38, li39, li40, li41, li45, li48, li50, li51, li57, li58, li59, li60, li61, li62, li64, li70, li71, li72, li99, li100, li101, li104, li107, li109, li116, li120, li121, li124, li127, li128, li144, li255, li300, li360, li372, li396, li600, li999, li1000, li9960, li9990, li1000000, nI_1, nI_add, pk_sub, pk_mul, pk_div, rem_nI, i_lt, i_le, i_eq, okI, ix, isB, nI_clamp, nI_toInt, tneg, gI_sI, gR_sI, gJ_sI, gI_sR, gR_sR, gJ_sR, gI_sJ, gR_sJ, gJ_sJ, true_and, and_true, false_and, and_false, if_true, if_false, if_pos, if_neg]
end N2
